set_option maxRecDepth 100000 in
set_option maxHeartbeats 4000000 in
theorem w_X0_copy {l : Launch} {G : Gv} {σ : Sto} {a0 : Nat} {a1 : Nat} {i2 : Int32} {z : Sto} (hF : F_X0_copy σ a0 a1 i2 = some z) : Con l yX0_copy cX0_copy 3 none 1 G shC νC [.ref a0, .ref a1, .int i2] (ovC σ) none (ovC z) := by
  rw [F_X0_copy] at hF
  refine Con_enter (own := RX0) 0 (lv := [some (.ref a0), some (.ref a1), some (.int i2)]) mi_X0_copy.2.2.2 rfl (Nat.le_of_ble_eq_true rfl) rfl (fun h hr hin => ?_)
  refine st_aload_1 h dX0_copy_0 ?_
  obtain ⟨g1, hF⟩ := gI hF
  refine gX0_0 h fl_X0_11 dX0_copy_1 g1 ?_
  refine st_ic_0 h dX0_copy_4 ?_
  refine st_aload_0 h dX0_copy_5 ?_
  obtain ⟨g2, hF⟩ := gI hF
  refine gX0_0 h fl_X0_11 dX0_copy_6 g2 ?_
  refine st_ic_0 h dX0_copy_9 ?_
  refine st_iload_2 h dX0_copy_10 ?_
  refine st_ic_4 h dX0_copy_11 ?_
  refine st_imul h dX0_copy_12 ?_
  obtain ⟨g3, hF⟩ := gI hF
  obtain ⟨s1, hs1, hF⟩ := swI hF
  refine cpC h ml_X0_43 dX0_copy_13 (sk_0_0 g1) (sk_0_0 g2) (by decide) (by decide) g3.1 g3.2 g3.2 ⟨Nat.le_of_ble_eq_true rfl, Nat.le_of_ble_eq_true rfl⟩ hs1 ?_
  cases hF
  exact st_vret h hr dX0_copy_16
set_option maxRecDepth 100000 in
set_option maxHeartbeats 4000000 in
theorem w_X3_take {l : Launch} {G : Gv} {σ : Sto} {a0 : Nat} {a1 : Nat} {a2 : Nat} {z : Sto} (hF : F_X3_take σ a0 a1 a2 = some z) : Con l yX3_take cX3_take 3 none 2 G shC νC [.ref a0, .ref a1, .ref a2] (ovC σ) none (ovC z) := by
  rw [F_X3_take] at hF
  refine Con_enter (own := RX3) 0 (lv := [some (.ref a0), some (.ref a1), some (.ref a2)]) mi_X3_take.2.2.2 rfl (Nat.le_of_ble_eq_true rfl) rfl (fun h hr hin => ?_)
  refine st_aload_0 h dX3_take_0 ?_
  refine st_ic_1 h dX3_take_1 ?_
  obtain ⟨g1, hF⟩ := gI hF
  obtain ⟨s1, hs1, hF⟩ := swI hF
  refine pX3_0 h fl_X3_23 dX3_take_2 g1 (Or.inr rfl) hs1 ?_
  refine st_aload_0 h dX3_take_5 ?_
  refine gX3_1 h fl_X3_10 dX3_take_6 g1 ?_
  refine st_aload_1 h dX3_take_9 ?_
  obtain ⟨x1, hx1, hF⟩ := bI hF
  refine st_cVv (vs := [.ref a1]) (st := []) h (w_X10_copy hx1) mi_X10_copy mv_X10_copy ml_X3_27 dX3_take_10 (shC_e (congrArg Prod.fst (sk_3_1 g1))) rfl ⟨Nat.le_of_ble_eq_true rfl, Nat.le_of_ble_eq_true rfl⟩ (Nat.le_of_ble_eq_true rfl) rfl ?_
  refine st_aload_0 h dX3_take_13 ?_
  refine gX3_2 h fl_X3_19 dX3_take_14 g1 ?_
  refine st_aload_2 h dX3_take_17 ?_
  refine st_aload_1 h dX3_take_18 ?_
  obtain ⟨g2, hF⟩ := gI hF
  refine gX10_0 h fl_X3_31 dX3_take_19 g2 ?_
  obtain ⟨x2, hx2, hF⟩ := bI hF
  refine st_cVv (vs := [.ref a2, .int (x1.1 a1 0)]) (st := []) h (w_X0_copy hx2) mi_X0_copy mv_X0_copy ml_X3_35 dX3_take_22 (shC_e (congrArg Prod.fst (sk_3_2 g1))) rfl ⟨Nat.le_of_ble_eq_true rfl, Nat.le_of_ble_eq_true rfl⟩ (Nat.le_of_ble_eq_true rfl) rfl ?_
  cases hF
  exact st_vret h hr dX3_take_25
set_option maxRecDepth 100000 in
set_option maxHeartbeats 4000000 in
theorem w_X11_keep_16 {p : Program} {l : Launch} {e : Env} {s : State} {m : MethodId} {args : Array Value} {below : List Frame} {meth : Method} {c : Code} {G : Gv} (h : Cx p s m args meth c G cX11_keep 2 RX11) (hr : meth.sig.returnType = (some .boolean)) : ∀ (σ : Sto) (z : (Int32 × Sto)), F_X11_keep_16 σ  = some z → AW p l e (rmD 3 0 0) s m args below meth c (MQ below (QcR G shC νC (some (.int z.1)) (ovC z.2)) args s 0 0 (gA G)) 0 0 G 2 16 [some (.ref 0), none] [] shC νC (ovC σ) := by
  intro σ z hF
  rw [F_X11_keep_16] at hF
  refine st_aload_0 h dX11_keep_16 ?_
  refine st_ic_1 h dX11_keep_17 ?_
  obtain ⟨x1, hx1, hF⟩ := bI hF
  refine st_cVi (vs := [.int 1]) (st := []) h (w_X11_refuse hx1) mi_X11_refuse mv_X11_refuse ml_X11_99 dX11_keep_18 kC_0 rfl ⟨Nat.le_of_ble_eq_true rfl, Nat.le_of_ble_eq_true rfl⟩ (Nat.le_of_ble_eq_true rfl) rfl ?_
  refine st_pop h rfl dX11_keep_21 ?_
  refine st_ic_0 h dX11_keep_22 ?_
  cases hF
  exact st_zret h hr (Or.inl rfl) dX11_keep_23
set_option maxRecDepth 100000 in
set_option maxHeartbeats 4000000 in
theorem w_X11_keep {l : Launch} {G : Gv} {σ : Sto} {i1 : Int32} {z : (Int32 × Sto)} (hF : F_X11_keep σ i1 = some z) : Con l yX11_keep cX11_keep 2 (some .boolean) 3 G shC νC [.ref 0, .int i1] (ovC σ) (some (.int z.1)) (ovC z.2) := by
  rw [F_X11_keep] at hF
  refine Con_enter (own := RX11) 0 (lv := [some (.ref 0), some (.int i1)]) mi_X11_keep.2.2.2 rfl (Nat.le_of_ble_eq_true rfl) rfl (fun h hr hin => ?_)
  refine st_aload_0 h dX11_keep_0 ?_
  refine gX11_13 h fl_X11_131 dX11_keep_1 (congrArg Prod.fst kC_0) ?_
  refine st_if_eq (t := 16) h dX11_keep_4 (by decide) (fun q1 => ?_) (fun q1 => ?_)
  · have hF := pI q1 hF
    exact st_sub (ls_s (ls_n ls_e)) (w_X11_keep_16 h hr σ  z hF)
  · have hF := qI q1 hF
    refine st_iload_1 h dX11_keep_7 ?_
    refine st_if_lt (t := 16) h dX11_keep_8 (by decide) (fun q2 => ?_) (fun q2 => ?_)
    · have hF := pI q2 hF
      exact st_sub (ls_s (ls_n ls_e)) (w_X11_keep_16 h hr σ  z hF)
    · have hF := qI q2 hF
      refine st_iload_1 h dX11_keep_11 ?_
      refine st_ic_2 h dX11_keep_12 ?_
      refine st_icmp_lt (t := 24) h dX11_keep_13 (by decide) (fun q3 => ?_) (fun q3 => ?_)
      · have hF := pI q3 hF
        refine st_aload_0 h dX11_keep_24 ?_
        refine gX11_5 h fl_X11_43 dX11_keep_25 (congrArg Prod.fst kC_0) ?_
        refine st_iload_1 h dX11_keep_28 ?_
        obtain ⟨g1, hF⟩ := gI hF
        refine aaI h dX11_keep_29 g1 ?_
        refine st_aload_0 h dX11_keep_30 ?_
        refine gX11_2 h fl_X11_23 dX11_keep_31 (congrArg Prod.fst kC_0) ?_
        refine st_aload_0 h dX11_keep_34 ?_
        refine gX11_3 h fl_X11_30 dX11_keep_35 (congrArg Prod.fst kC_0) ?_
        obtain ⟨x1, hx1, hF⟩ := bI hF
        refine st_cVv (vs := [.ref 3, .ref 8]) (st := []) h (w_X3_take hx1) mi_X3_take mv_X3_take ml_X11_349 dX11_keep_38 (shC_e (congrArg Prod.fst (sk_imgs _ (ib_lt g1)))) rfl ⟨Nat.le_of_ble_eq_true rfl, Nat.le_of_ble_eq_true rfl⟩ (Nat.le_of_ble_eq_true rfl) rfl ?_
        refine st_aload_0 h dX11_keep_41 ?_
        refine st_ic_0 h dX11_keep_42 ?_
        obtain ⟨x2, hx2, hF⟩ := bI hF
        refine st_cVi (vs := [.int 0]) (st := []) h (w_X11_answer hx2) mi_X11_answer mv_X11_answer ml_X11_125 dX11_keep_43 kC_0 rfl ⟨Nat.le_of_ble_eq_true rfl, Nat.le_of_ble_eq_true rfl⟩ (Nat.le_of_ble_eq_true rfl) rfl ?_
        refine st_pop h rfl dX11_keep_46 ?_
        refine st_ic_1 h dX11_keep_47 ?_
        cases hF
        exact st_zret h hr (Or.inr rfl) dX11_keep_48
      · have hF := qI q3 hF
        exact st_sub (ls_s (ls_n ls_e)) (w_X11_keep_16 h hr σ  z hF)
set_option maxRecDepth 100000 in
set_option maxHeartbeats 4000000 in
theorem w_X3_give {l : Launch} {G : Gv} {σ : Sto} {a0 : Nat} {a1 : Nat} {a2 : Nat} {z : Sto} (hF : F_X3_give σ a0 a1 a2 = some z) : Con l yX3_give cX3_give 3 none 2 G shC νC [.ref a0, .ref a1, .ref a2] (ovC σ) none (ovC z) := by
  rw [F_X3_give] at hF
  refine Con_enter (own := RX3) 0 (lv := [some (.ref a0), some (.ref a1), some (.ref a2)]) mi_X3_give.2.2.2 rfl (Nat.le_of_ble_eq_true rfl) rfl (fun h hr hin => ?_)
  refine st_aload_1 h dX3_give_0 ?_
  refine st_aload_0 h dX3_give_1 ?_
  obtain ⟨g1, hF⟩ := gI hF
  refine gX3_1 h fl_X3_10 dX3_give_2 g1 ?_
  obtain ⟨g2, hF⟩ := gI hF
  obtain ⟨x1, hx1, hF⟩ := bI hF
  refine st_cVv (vs := [.ref (a0 + 1)]) (st := []) h (w_X10_copy hx1) mi_X10_copy mv_X10_copy ml_X3_27 dX3_give_5 (shC_e g2) rfl ⟨Nat.le_of_ble_eq_true rfl, Nat.le_of_ble_eq_true rfl⟩ (Nat.le_of_ble_eq_true rfl) rfl ?_
  refine st_aload_2 h dX3_give_8 ?_
  refine st_aload_0 h dX3_give_9 ?_
  refine gX3_2 h fl_X3_19 dX3_give_10 g1 ?_
  refine st_aload_0 h dX3_give_13 ?_
  refine gX3_1 h fl_X3_10 dX3_give_14 g1 ?_
  refine gX10_0 h fl_X3_31 dX3_give_17 (congrArg Prod.fst (sk_3_1 g1)) ?_
  obtain ⟨g3, hF⟩ := gI hF
  obtain ⟨x2, hx2, hF⟩ := bI hF
  refine st_cVv (vs := [.ref (a0 + 6), .int (x1.1 (a0 + 1) 0)]) (st := []) h (w_X0_copy hx2) mi_X0_copy mv_X0_copy ml_X3_35 dX3_give_20 (shC_e g3) rfl ⟨Nat.le_of_ble_eq_true rfl, Nat.le_of_ble_eq_true rfl⟩ (Nat.le_of_ble_eq_true rfl) rfl ?_
  cases hF
  exact st_vret h hr dX3_give_23
set_option maxRecDepth 100000 in
set_option maxHeartbeats 4000000 in
theorem w_X11_back_28 {p : Program} {l : Launch} {e : Env} {s : State} {m : MethodId} {args : Array Value} {below : List Frame} {meth : Method} {c : Code} {G : Gv} (h : Cx p s m args meth c G cX11_back 2 RX11) (hr : meth.sig.returnType = (some .boolean)) : ∀ (σ : Sto) (z : (Int32 × Sto)), F_X11_back_28 σ  = some z → AW p l e (rmD 4 0 0) s m args below meth c (MQ below (QcR G shC νC (some (.int z.1)) (ovC z.2)) args s 0 0 (gA G)) 0 0 G 2 28 [some (.ref 0), none] [] shC νC (ovC σ) := by
  intro σ z hF
  rw [F_X11_back_28] at hF
  refine st_aload_0 h dX11_back_28 ?_
  refine st_ic_1 h dX11_back_29 ?_
  obtain ⟨x1, hx1, hF⟩ := bI hF
  refine st_cVi (vs := [.int 1]) (st := []) h (w_X11_refuse hx1) mi_X11_refuse mv_X11_refuse ml_X11_99 dX11_back_30 kC_0 rfl ⟨Nat.le_of_ble_eq_true rfl, Nat.le_of_ble_eq_true rfl⟩ (Nat.le_of_ble_eq_true rfl) rfl ?_
  refine st_pop h rfl dX11_back_33 ?_
  refine st_ic_0 h dX11_back_34 ?_
  cases hF
  exact st_zret h hr (Or.inl rfl) dX11_back_35
set_option maxRecDepth 100000 in
set_option maxHeartbeats 4000000 in
theorem w_X11_back {l : Launch} {G : Gv} {σ : Sto} {i1 : Int32} {z : (Int32 × Sto)} (hF : F_X11_back σ i1 = some z) : Con l yX11_back cX11_back 2 (some .boolean) 4 G shC νC [.ref 0, .int i1] (ovC σ) (some (.int z.1)) (ovC z.2) := by
  rw [F_X11_back] at hF
  refine Con_enter (own := RX11) 0 (lv := [some (.ref 0), some (.int i1)]) mi_X11_back.2.2.2 rfl (Nat.le_of_ble_eq_true rfl) rfl (fun h hr hin => ?_)
  refine st_aload_0 h dX11_back_0 ?_
  refine gX11_13 h fl_X11_131 dX11_back_1 (congrArg Prod.fst kC_0) ?_
  refine st_if_eq (t := 28) h dX11_back_4 (by decide) (fun q1 => ?_) (fun q1 => ?_)
  · have hF := pI q1 hF
    exact st_sub (ls_s (ls_n ls_e)) (w_X11_back_28 h hr σ  z hF)
  · have hF := qI q1 hF
    refine st_iload_1 h dX11_back_7 ?_
    refine st_if_lt (t := 28) h dX11_back_8 (by decide) (fun q2 => ?_) (fun q2 => ?_)
    · have hF := pI q2 hF
      exact st_sub (ls_s (ls_n ls_e)) (w_X11_back_28 h hr σ  z hF)
    · have hF := qI q2 hF
      refine st_iload_1 h dX11_back_11 ?_
      refine st_ic_2 h dX11_back_12 ?_
      refine st_icmp_ge (t := 28) h dX11_back_13 (by decide) (fun q3 => ?_) (fun q3 => ?_)
      · have hF := pI q3 hF
        exact st_sub (ls_s (ls_n ls_e)) (w_X11_back_28 h hr σ  z hF)
      · have hF := qI q3 hF
        refine st_aload_0 h dX11_back_16 ?_
        refine gX11_5 h fl_X11_43 dX11_back_17 (congrArg Prod.fst kC_0) ?_
        refine st_iload_1 h dX11_back_20 ?_
        obtain ⟨g1, hF⟩ := gI hF
        refine aaI h dX11_back_21 g1 ?_
        refine gX3_0 h fl_X11_353 dX11_back_22 (congrArg Prod.fst (sk_imgs _ (ib_lt g1))) ?_
        refine st_if_ne (t := 36) h dX11_back_25 (by decide) (fun q4 => ?_) (fun q4 => ?_)
        · have hF := qI q4 hF
          refine st_aload_0 h dX11_back_36 ?_
          refine gX11_5 h fl_X11_43 dX11_back_37 (congrArg Prod.fst kC_0) ?_
          refine st_iload_1 h dX11_back_40 ?_
          refine aaI h dX11_back_41 g1 ?_
          refine st_aload_0 h dX11_back_42 ?_
          refine gX11_2 h fl_X11_23 dX11_back_43 (congrArg Prod.fst kC_0) ?_
          refine st_aload_0 h dX11_back_46 ?_
          refine gX11_3 h fl_X11_30 dX11_back_47 (congrArg Prod.fst kC_0) ?_
          obtain ⟨x1, hx1, hF⟩ := bI hF
          refine st_cVv (vs := [.ref 3, .ref 8]) (st := []) h (w_X3_give hx1) mi_X3_give mv_X3_give ml_X11_354 dX11_back_50 (shC_e (congrArg Prod.fst (sk_imgs _ (ib_lt g1)))) rfl ⟨Nat.le_of_ble_eq_true rfl, Nat.le_of_ble_eq_true rfl⟩ (Nat.le_of_ble_eq_true rfl) rfl ?_
          refine st_aload_0 h dX11_back_53 ?_
          refine gX11_4 h fl_X11_37 dX11_back_54 (congrArg Prod.fst kC_0) ?_
          obtain ⟨x2, hx2, hF⟩ := bI hF
          refine st_cVv (vs := []) (st := []) h (w_X5_clear hx2) mi_X5_clear mv_X5_clear ml_X11_357 dX11_back_57 kC_10 rfl ⟨Nat.le_of_ble_eq_true rfl, Nat.le_of_ble_eq_true rfl⟩ (Nat.le_of_ble_eq_true rfl) rfl ?_
          refine st_aload_0 h dX11_back_60 ?_
          obtain ⟨x3, hx3, hF⟩ := bI hF
          refine st_cVv (vs := []) (st := []) h (w_X11_forgetAll hx3) mi_X11_forgetAll mv_X11_forgetAll ml_X11_332 dX11_back_61 kC_0 rfl ⟨Nat.le_of_ble_eq_true rfl, Nat.le_of_ble_eq_true rfl⟩ (Nat.le_of_ble_eq_true rfl) rfl ?_
          refine st_aload_0 h dX11_back_64 ?_
          refine st_ic_0 h dX11_back_65 ?_
          obtain ⟨x4, hx4, hF⟩ := bI hF
          refine st_cVi (vs := [.int 0]) (st := []) h (w_X11_answer hx4) mi_X11_answer mv_X11_answer ml_X11_125 dX11_back_66 kC_0 rfl ⟨Nat.le_of_ble_eq_true rfl, Nat.le_of_ble_eq_true rfl⟩ (Nat.le_of_ble_eq_true rfl) rfl ?_
          refine st_pop h rfl dX11_back_69 ?_
          refine st_ic_1 h dX11_back_70 ?_
          cases hF
          exact st_zret h hr (Or.inr rfl) dX11_back_71
        · have hF := pI q4 hF
          exact st_sub (ls_s (ls_n ls_e)) (w_X11_back_28 h hr σ  z hF)
set_option maxRecDepth 100000 in
set_option maxHeartbeats 4000000 in
theorem w_X0_look {l : Launch} {G : Gv} {σ : Sto} {a0 : Nat} {i1 : Int32} {i2 : Int32} {z : Int32} (hF : F_X0_look σ a0 i1 i2 = some z) : Con l yX0_look cX0_look 4 (some .int) 1 G shC νC [.ref a0, .int i1, .int i2] (ovC σ) (some (.int z)) (ovC σ) := by
  rw [F_X0_look] at hF
  refine Con_enter (own := RX0) 1 (lv := [some (.ref a0), some (.int i1), some (.int i2), none]) mi_X0_look.2.2.2 rfl (Nat.le_of_ble_eq_true rfl) rfl (fun h hr hin => ?_)
  refine st_iload_1 h dX0_look_0 ?_
  refine st_ic_4 h dX0_look_1 ?_
  refine st_imul h dX0_look_2 ?_
  refine st_istore_3 h dX0_look_3 ?_
  refine st_iload_2 h dX0_look_4 ?_
  refine st_ic_4 h dX0_look_5 ?_
  refine st_icmp_ge (t := 20) h dX0_look_6 (by decide) (fun q1 => ?_) (fun q1 => ?_)
  · have hF := pI q1 hF
    refine st_aload_0 h dX0_look_20 ?_
    obtain ⟨g1, hF⟩ := gI hF
    refine gX0_0 h fl_X0_11 dX0_look_21 g1 ?_
    refine st_iload_3 h dX0_look_24 ?_
    obtain ⟨g2, hF⟩ := gI hF
    refine iaC h dX0_look_25 (sk_0_0 g1) g2 ?_
    refine st_aload_0 h dX0_look_26 ?_
    refine gX0_0 h fl_X0_11 dX0_look_27 g1 ?_
    refine st_iload_3 h dX0_look_30 ?_
    refine st_ic_1 h dX0_look_31 ?_
    refine st_iadd h dX0_look_32 ?_
    obtain ⟨g3, hF⟩ := gI hF
    refine iaC h dX0_look_33 (sk_0_0 g1) g3 ?_
    refine st_icmp_gt (t := 41) h dX0_look_34 (by decide) (fun q2 => ?_) (fun q2 => ?_)
    · have hF := pI q2 hF
      refine st_ic_0 h dX0_look_41 ?_
      cases hF
      exact st_iret h hr dX0_look_42
    · have hF := qI q2 hF
      refine st_ic_1 h dX0_look_37 ?_
      refine st_goto (t := 42) h dX0_look_38 (by decide) ?_
      cases hF
      exact st_iret h hr dX0_look_42
  · have hF := qI q1 hF
    refine st_aload_0 h dX0_look_9 ?_
    obtain ⟨g4, hF⟩ := gI hF
    refine gX0_0 h fl_X0_11 dX0_look_10 g4 ?_
    refine st_iload_3 h dX0_look_13 ?_
    refine st_iload_2 h dX0_look_14 ?_
    refine st_iadd h dX0_look_15 ?_
    obtain ⟨g5, hF⟩ := gI hF
    refine iaC h dX0_look_16 (sk_0_0 g4) g5 ?_
    refine st_goto (t := 42) h dX0_look_17 (by decide) ?_
    cases hF
    exact st_iret h hr dX0_look_42
set_option maxRecDepth 100000 in
set_option maxHeartbeats 4000000 in
theorem w_X11_book_31 {p : Program} {l : Launch} {e : Env} {s : State} {m : MethodId} {args : Array Value} {below : List Frame} {meth : Method} {c : Code} {G : Gv} (h : Cx p s m args meth c G cX11_book 3 RX11) (hr : meth.sig.returnType = (some .int)) : ∀ (σ : Sto) (z : (Int32 × Sto)), F_X11_book_31 σ  = some z → AW p l e (rmD 2 0 0) s m args below meth c (MQ below (QcR G shC νC (some (.int z.1)) (ovC z.2)) args s 0 0 (gA G)) 0 0 G 3 31 [some (.ref 0), none, none] [] shC νC (ovC σ) := by
  intro σ z hF
  rw [F_X11_book_31] at hF
  refine st_aload_0 h dX11_book_31 ?_
  refine st_ic_1 h dX11_book_32 ?_
  obtain ⟨x1, hx1, hF⟩ := bI hF
  refine st_cVi (vs := [.int 1]) (st := []) h (w_X11_refuse hx1) mi_X11_refuse mv_X11_refuse ml_X11_99 dX11_book_33 kC_0 rfl ⟨Nat.le_of_ble_eq_true rfl, Nat.le_of_ble_eq_true rfl⟩ (Nat.le_of_ble_eq_true rfl) rfl ?_
  cases hF
  exact st_iret h hr dX11_book_36
set_option maxRecDepth 100000 in
set_option maxHeartbeats 4000000 in
theorem w_X11_book {l : Launch} {G : Gv} {σ : Sto} {i1 : Int32} {i2 : Int32} {z : (Int32 × Sto)} (hF : F_X11_book σ i1 i2 = some z) : Con l yX11_book cX11_book 3 (some .int) 2 G shC νC [.ref 0, .int i1, .int i2] (ovC σ) (some (.int z.1)) (ovC z.2) := by
  rw [F_X11_book] at hF
  refine Con_enter (own := RX11) 0 (lv := [some (.ref 0), some (.int i1), some (.int i2)]) mi_X11_book.2.2.2 rfl (Nat.le_of_ble_eq_true rfl) rfl (fun h hr hin => ?_)
  refine st_aload_0 h dX11_book_0 ?_
  refine gX11_13 h fl_X11_131 dX11_book_1 (congrArg Prod.fst kC_0) ?_
  refine st_if_eq (t := 31) h dX11_book_4 (by decide) (fun q1 => ?_) (fun q1 => ?_)
  · have hF := pI q1 hF
    exact st_sub (ls_s (ls_n (ls_n ls_e))) (w_X11_book_31 h hr σ  z hF)
  · have hF := qI q1 hF
    refine st_iload_1 h dX11_book_7 ?_
    refine st_if_lt (t := 31) h dX11_book_8 (by decide) (fun q2 => ?_) (fun q2 => ?_)
    · have hF := pI q2 hF
      exact st_sub (ls_s (ls_n (ls_n ls_e))) (w_X11_book_31 h hr σ  z hF)
    · have hF := qI q2 hF
      refine st_iload_1 h dX11_book_11 ?_
      refine st_aload_0 h dX11_book_12 ?_
      refine gX11_2 h fl_X11_23 dX11_book_13 (congrArg Prod.fst kC_0) ?_
      refine gX10_0 h fl_X11_135 dX11_book_16 (congrArg Prod.fst kC_3) ?_
      refine st_icmp_ge (t := 31) h dX11_book_19 (by decide) (fun q3 => ?_) (fun q3 => ?_)
      · have hF := pI q3 hF
        exact st_sub (ls_s (ls_n (ls_n ls_e))) (w_X11_book_31 h hr σ  z hF)
      · have hF := qI q3 hF
        refine st_iload_2 h dX11_book_22 ?_
        refine st_if_lt (t := 31) h dX11_book_23 (by decide) (fun q4 => ?_) (fun q4 => ?_)
        · have hF := pI q4 hF
          exact st_sub (ls_s (ls_n (ls_n ls_e))) (w_X11_book_31 h hr σ  z hF)
        · have hF := qI q4 hF
          refine st_iload_2 h dX11_book_26 ?_
          refine st_ic_4 h dX11_book_27 ?_
          refine st_icmp_le (t := 37) h dX11_book_28 (by decide) (fun q5 => ?_) (fun q5 => ?_)
          · have hF := pI q5 hF
            refine st_aload_0 h dX11_book_37 ?_
            refine st_aload_0 h dX11_book_38 ?_
            refine gX11_3 h fl_X11_30 dX11_book_39 (congrArg Prod.fst kC_0) ?_
            refine st_iload_1 h dX11_book_42 ?_
            refine st_iload_2 h dX11_book_43 ?_
            obtain ⟨x1, hx1, hF⟩ := bI hF
            refine st_cVi (vs := [.int i1, .int i2]) (st := [.ref 0]) h (w_X0_look hx1) mi_X0_look mv_X0_look ml_X11_360 dX11_book_44 kC_8 rfl ⟨Nat.le_of_ble_eq_true rfl, Nat.le_of_ble_eq_true rfl⟩ (Nat.le_of_ble_eq_true rfl) rfl ?_
            obtain ⟨x2, hx2, hF⟩ := bI hF
            refine st_cVi (vs := [.int x1]) (st := []) h (w_X11_answer hx2) mi_X11_answer mv_X11_answer ml_X11_125 dX11_book_47 kC_0 rfl ⟨Nat.le_of_ble_eq_true rfl, Nat.le_of_ble_eq_true rfl⟩ (Nat.le_of_ble_eq_true rfl) rfl ?_
            cases hF
            exact st_iret h hr dX11_book_50
          · have hF := qI q5 hF
            exact st_sub (ls_s (ls_n (ls_n ls_e))) (w_X11_book_31 h hr σ  z hF)
set_option maxRecDepth 100000 in
set_option maxHeartbeats 4000000 in
theorem w_X11_bytes {l : Launch} {G : Gv} {σ : Sto} {z : Int32} (hF : F_X11_bytes σ  = some z) : Con l yX11_bytes cX11_bytes 1 (some .int) 1 G shC νC [.ref 0] (ovC σ) (some (.int z)) (ovC σ) := by
  rw [F_X11_bytes] at hF
  refine Con_enter (own := RX11) 0 (lv := [some (.ref 0)]) mi_X11_bytes.2.2.2 rfl (Nat.le_of_ble_eq_true rfl) rfl (fun h hr hin => ?_)
  refine st_aload_0 h dX11_bytes_0 ?_
  refine gX11_14 h fl_X11_91 dX11_bytes_1 (congrArg Prod.fst kC_0) ?_
  cases hF
  exact st_iret h hr dX11_bytes_4
set_option maxRecDepth 100000 in
set_option maxHeartbeats 4000000 in
theorem w_X11_trouble {l : Launch} {G : Gv} {σ : Sto} {z : Int32} (hF : F_X11_trouble σ  = some z) : Con l yX11_trouble cX11_trouble 1 (some .int) 1 G shC νC [.ref 0] (ovC σ) (some (.int z)) (ovC σ) := by
  rw [F_X11_trouble] at hF
  refine Con_enter (own := RX11) 0 (lv := [some (.ref 0)]) mi_X11_trouble.2.2.2 rfl (Nat.le_of_ble_eq_true rfl) rfl (fun h hr hin => ?_)
  refine st_aload_0 h dX11_trouble_0 ?_
  refine gX11_18 h fl_X11_128 dX11_trouble_1 (congrArg Prod.fst kC_0) ?_
  cases hF
  exact st_iret h hr dX11_trouble_4
set_option maxRecDepth 100000 in
set_option maxHeartbeats 4000000 in
theorem w_X12_thrown {l : Launch} {G : Gv} {σ : Sto} {z : Int32} (hF : F_X12_thrown σ  = some z) : Con l yX12_thrown cX12_thrown 1 (some .int) 1 G shM νM [.ref 0] (ovM σ) (some (.int z)) (ovM σ) := by
  rw [F_X12_thrown] at hF
  refine Con_enter (own := RX12) 0 (lv := [some (.ref 0)]) mi_X12_thrown.2.2.2 rfl (Nat.le_of_ble_eq_true rfl) rfl (fun h hr hin => ?_)
  refine st_aload_0 h dX12_thrown_0 ?_
  refine gX12_0 h fl_X12_73 dX12_thrown_1 (congrArg Prod.fst kM_0) ?_
  cases hF
  exact st_iret h hr dX12_thrown_4
set_option maxRecDepth 100000 in
set_option maxHeartbeats 4000000 in
theorem w_X12_refused {l : Launch} {G : Gv} {σ : Sto} {i1 : Int32} {z : (Int32 × Sto)} (hF : F_X12_refused σ i1 = some z) : Con l yX12_refused cX12_refused 2 (some .int) 1 G shM νM [.ref 0, .int i1] (ovM σ) (some (.int z.1)) (ovM z.2) := by
  rw [F_X12_refused] at hF
  refine Con_enter (own := RX12) 0 (lv := [some (.ref 0), some (.int i1)]) mi_X12_refused.2.2.2 rfl (Nat.le_of_ble_eq_true rfl) rfl (fun h hr hin => ?_)
  refine st_aload_0 h dX12_refused_0 ?_
  refine st_iload_1 h dX12_refused_1 ?_
  obtain ⟨s1, hs1, hF⟩ := swI hF
  refine pX12_1 h fl_X12_76 dX12_refused_2 (congrArg Prod.fst kM_0) hs1 ?_
  refine st_aload_0 h dX12_refused_5 ?_
  refine st_ic_m1 h dX12_refused_6 ?_
  obtain ⟨s2, hs2, hF⟩ := swI hF
  refine pX12_2 h fl_X12_9 dX12_refused_7 (congrArg Prod.fst kM_0) hs2 ?_
  refine st_ic_m1 h dX12_refused_10 ?_
  cases hF
  exact st_iret h hr dX12_refused_11
set_option maxRecDepth 100000 in
set_option maxHeartbeats 4000000 in
theorem w_X12_tells {l : Launch} {G : Gv} {σ : Sto} {i1 : Int32} {z : (Int32 × Sto)} (hF : F_X12_tells σ i1 = some z) : Con l yX12_tells cX12_tells 2 (some .int) 1 G shM νM [.ref 0, .int i1] (ovM σ) (some (.int z.1)) (ovM z.2) := by
  rw [F_X12_tells] at hF
  refine Con_enter (own := RX12) 0 (lv := [some (.ref 0), some (.int i1)]) mi_X12_tells.2.2.2 rfl (Nat.le_of_ble_eq_true rfl) rfl (fun h hr hin => ?_)
  refine st_aload_0 h dX12_tells_0 ?_
  refine st_ic_0 h dX12_tells_1 ?_
  obtain ⟨s1, hs1, hF⟩ := swI hF
  refine pX12_1 h fl_X12_76 dX12_tells_2 (congrArg Prod.fst kM_0) hs1 ?_
  refine st_aload_0 h dX12_tells_5 ?_
  refine st_ic_m1 h dX12_tells_6 ?_
  obtain ⟨s2, hs2, hF⟩ := swI hF
  refine pX12_2 h fl_X12_9 dX12_tells_7 (congrArg Prod.fst kM_0) hs2 ?_
  refine st_iload_1 h dX12_tells_10 ?_
  cases hF
  exact st_iret h hr dX12_tells_11
set_option maxRecDepth 100000 in
set_option maxHeartbeats 4000000 in
theorem w_X12_granted {l : Launch} {G : Gv} {σ : Sto} {i1 : Int32} {z : (Int32 × Sto)} (hF : F_X12_granted σ i1 = some z) : Con l yX12_granted cX12_granted 2 (some .boolean) 1 G shM νM [.ref 0, .int i1] (ovM σ) (some (.int z.1)) (ovM z.2) := by
  rw [F_X12_granted] at hF
  refine Con_enter (own := RX12) 0 (lv := [some (.ref 0), some (.int i1)]) mi_X12_granted.2.2.2 rfl (Nat.le_of_ble_eq_true rfl) rfl (fun h hr hin => ?_)
  refine st_aload_0 h dX12_granted_0 ?_
  refine st_iload_1 h dX12_granted_1 ?_
  obtain ⟨s1, hs1, hF⟩ := swI hF
  refine pX12_1 h fl_X12_76 dX12_granted_2 (congrArg Prod.fst kM_0) hs1 ?_
  refine st_aload_0 h dX12_granted_5 ?_
  refine st_ic_m1 h dX12_granted_6 ?_
  obtain ⟨s2, hs2, hF⟩ := swI hF
  refine pX12_2 h fl_X12_9 dX12_granted_7 (congrArg Prod.fst kM_0) hs2 ?_
  refine st_iload_1 h dX12_granted_10 ?_
  refine st_if_ne (t := 18) h dX12_granted_11 (by decide) (fun q1 => ?_) (fun q1 => ?_)
  · have hF := qI q1 hF
    refine st_ic_0 h dX12_granted_18 ?_
    cases hF
    exact st_zret h hr (Or.inl rfl) dX12_granted_19
  · have hF := pI q1 hF
    refine st_ic_1 h dX12_granted_14 ?_
    refine st_goto (t := 19) h dX12_granted_15 (by decide) ?_
    cases hF
    exact st_zret h hr (Or.inr rfl) dX12_granted_19
set_option maxRecDepth 100000 in
set_option maxHeartbeats 4000000 in
theorem w_X12_in {l : Launch} {G : Gv} {σ : Sto} {i0 : Int32} {i1 : Int32} {i2 : Int32} {z : Int32} (hF : F_X12_in σ i0 i1 i2 = some z) : Con l yX12_in cX12_in 3 (some .boolean) 1 G shM νM [.int i0, .int i1, .int i2] (ovM σ) (some (.int z)) (ovM σ) := by
  rw [F_X12_in] at hF
  refine Con_enter (own := RX12) 0 (lv := [some (.int i0), some (.int i1), some (.int i2)]) mi_X12_in.2.2.2 rfl (Nat.le_of_ble_eq_true rfl) rfl (fun h hr hin => ?_)
  refine st_iload_0 h dX12_in_0 ?_
  refine st_iload_1 h dX12_in_1 ?_
  refine st_icmp_lt (t := 14) h dX12_in_2 (by decide) (fun q1 => ?_) (fun q1 => ?_)
  · have hF := pI q1 hF
    refine st_ic_0 h dX12_in_14 ?_
    cases hF
    exact st_zret h hr (Or.inl rfl) dX12_in_15
  · have hF := qI q1 hF
    refine st_iload_0 h dX12_in_5 ?_
    refine st_iload_2 h dX12_in_6 ?_
    refine st_icmp_gt (t := 14) h dX12_in_7 (by decide) (fun q2 => ?_) (fun q2 => ?_)
    · have hF := pI q2 hF
      refine st_ic_0 h dX12_in_14 ?_
      cases hF
      exact st_zret h hr (Or.inl rfl) dX12_in_15
    · have hF := qI q2 hF
      refine st_ic_1 h dX12_in_10 ?_
      refine st_goto (t := 15) h dX12_in_11 (by decide) ?_
      cases hF
      exact st_zret h hr (Or.inr rfl) dX12_in_15
set_option maxRecDepth 100000 in
set_option maxHeartbeats 4000000 in
theorem w_X12_feed_76 {p : Program} {l : Launch} {e : Env} {s : State} {m : MethodId} {args : Array Value} {below : List Frame} {meth : Method} {c : Code} {G : Gv} (h : Cx p s m args meth c G cX12_feed 8 RX12) (hr : meth.sig.returnType = (some .int)) {k23 : Sto → Int32 → Int32 → Int32 → Int32 → Int32 → Int32 → Option (Int32 × Sto)} (H23 : ∀ (σ : Sto) (i1 : Int32) (i2 : Int32) (i3 : Int32) (i4 : Int32) (i5 : Int32) (i6 : Int32) (z : (Int32 × Sto)), k23 σ i1 i2 i3 i4 i5 i6 = some z → AW p l e (rmD 1 0 0) s m args below meth c (MQ below (QcR G shM νM (some (.int z.1)) (ovM z.2)) args s 0 0 (gA G)) 0 0 G 8 23 [some (.ref 0), some (.int i1), some (.int i2), some (.int i3), some (.int i4), some (.int i5), some (.int i6), none] [] shM νM (ovM σ)) : ∀ (σ : Sto) (i1 : Int32) (i2 : Int32) (i3 : Int32) (i4 : Int32) (i5 : Int32) (i6 : Int32) (e0 : Int32) (z : (Int32 × Sto)), F_X12_feed_76 k23 σ i1 i2 i3 i4 i5 i6 e0 = some z → AW p l e (rmD 1 0 0) s m args below meth c (MQ below (QcR G shM νM (some (.int z.1)) (ovM z.2)) args s 0 0 (gA G)) 0 0 G 8 76 [some (.ref 0), some (.int i1), some (.int i2), some (.int i3), some (.int i4), some (.int i5), some (.int i6), none] [.int e0] shM νM (ovM σ) := by
  intro σ i1 i2 i3 i4 i5 i6 e0 z hF
  rw [F_X12_feed_76] at hF
  refine st_istore_7 h dX12_feed_76 ?_
  refine st_aload_0 h dX12_feed_78 ?_
  refine gX12_3 h fl_X12_13 dX12_feed_79 (congrArg Prod.fst kM_0) ?_
  refine st_aload_0 h dX12_feed_82 ?_
  refine gX12_4 h fl_X12_79 dX12_feed_83 (congrArg Prod.fst kM_0) ?_
  refine st_iload_6 h dX12_feed_86 ?_
  refine st_iadd h dX12_feed_88 ?_
  refine st_iload_7 h dX12_feed_89 ?_
  refine st_bipush (v := 24) h dX12_feed_91 (by decide) ?_
  refine st_bipush (v := 8) h dX12_feed_93 (by decide) ?_
  refine st_iload_6 h dX12_feed_95 ?_
  refine st_ic_4 h dX12_feed_97 ?_
  refine st_irem h (by decide) dX12_feed_98 ?_
  refine st_imul h dX12_feed_99 ?_
  refine st_isub h dX12_feed_100 ?_
  refine st_ishr h dX12_feed_101 ?_
  refine st_sipush (v := 255) h dX12_feed_102 (by decide) ?_
  refine st_iand h dX12_feed_105 ?_
  obtain ⟨g1, hF⟩ := gI hF
  obtain ⟨s1, hs1, hF⟩ := swI hF
  refine isM h dX12_feed_106 kM_1 g1 hs1 ?_
  refine st_iinc_6 (y := i6 + 1) h dX12_feed_107 (ii_1 _) ?_
  refine st_goto (t := 23) h dX12_feed_110 (by decide) ?_
  exact st_sub (ls_s (ls_s (ls_s (ls_s (ls_s (ls_s (ls_s (ls_n ls_e)))))))) (H23 s1 i1 i2 i3 i4 i5 (i6 + 1) z hF)
set_option maxRecDepth 100000 in
set_option maxHeartbeats 4000000 in
theorem w_X12_feed_23 {p : Program} {l : Launch} {e : Env} {s : State} {m : MethodId} {args : Array Value} {below : List Frame} {meth : Method} {c : Code} {G : Gv} (h : Cx p s m args meth c G cX12_feed 8 RX12) (hr : meth.sig.returnType = (some .int)) : ∀ (n : Nat) (σ : Sto) (i1 : Int32) (i2 : Int32) (i3 : Int32) (i4 : Int32) (i5 : Int32) (i6 : Int32) (z : (Int32 × Sto)), F_X12_feed_23 n σ i1 i2 i3 i4 i5 i6 = some z → AW p l e (rmD 1 0 0) s m args below meth c (MQ below (QcR G shM νM (some (.int z.1)) (ovM z.2)) args s 0 0 (gA G)) 0 0 G 8 23 [some (.ref 0), some (.int i1), some (.int i2), some (.int i3), some (.int i4), some (.int i5), some (.int i6), none] [] shM νM (ovM σ) := by
  intro n
  induction n with
  | zero => intro σ i1 i2 i3 i4 i5 i6 z hF; cases hF
  | succ n ih =>
    intro σ i1 i2 i3 i4 i5 i6 z hF
    rw [F_X12_feed_23] at hF
    refine st_iload_6 h dX12_feed_23 ?_
    refine st_bipush (v := 20) h dX12_feed_25 (by decide) ?_
    refine st_icmp_ge (t := 113) h dX12_feed_27 (by decide) (fun q1 => ?_) (fun q1 => ?_)
    · have hF := pI q1 hF
      refine st_aload_0 h dX12_feed_113 ?_
      refine st_dup h rfl dX12_feed_114 ?_
      refine gX12_4 h fl_X12_79 dX12_feed_115 (congrArg Prod.fst kM_0) ?_
      refine st_bipush (v := 20) h dX12_feed_118 (by decide) ?_
      refine st_iadd h dX12_feed_120 ?_
      obtain ⟨s1, hs1, hF⟩ := swI hF
      refine pX12_4 h fl_X12_79 dX12_feed_121 (congrArg Prod.fst kM_0) hs1 ?_
      refine st_aload_0 h dX12_feed_124 ?_
      refine gX12_4 h fl_X12_79 dX12_feed_125 (congrArg Prod.fst kM_0) ?_
      cases hF
      exact st_iret h hr dX12_feed_128
    · have hF := qI q1 hF
      refine st_iload_6 h dX12_feed_30 ?_
      refine st_ic_4 h dX12_feed_32 ?_
      refine st_icmp_ge (t := 40) h dX12_feed_33 (by decide) (fun q2 => ?_) (fun q2 => ?_)
      · have hF := pI q2 hF
        refine st_iload_6 h dX12_feed_40 ?_
        refine st_bipush (v := 8) h dX12_feed_42 (by decide) ?_
        refine st_icmp_ge (t := 51) h dX12_feed_44 (by decide) (fun q3 => ?_) (fun q3 => ?_)
        · have hF := pI q3 hF
          refine st_iload_6 h dX12_feed_51 ?_
          refine st_bipush (v := 12) h dX12_feed_53 (by decide) ?_
          refine st_icmp_ge (t := 62) h dX12_feed_55 (by decide) (fun q4 => ?_) (fun q4 => ?_)
          · have hF := pI q4 hF
            refine st_iload_6 h dX12_feed_62 ?_
            refine st_bipush (v := 16) h dX12_feed_64 (by decide) ?_
            refine st_icmp_ge (t := 74) h dX12_feed_66 (by decide) (fun q5 => ?_) (fun q5 => ?_)
            · have hF := pI q5 hF
              refine st_iload_5 h dX12_feed_74 ?_
              exact st_sub (ls_s (ls_s (ls_s (ls_s (ls_s (ls_s (ls_s (ls_n ls_e)))))))) (w_X12_feed_76 h hr ih σ i1 i2 i3 i4 i5 i6 i5 z hF)
            · have hF := qI q5 hF
              refine st_iload_4 h dX12_feed_69 ?_
              refine st_goto (t := 76) h dX12_feed_71 (by decide) ?_
              exact st_sub (ls_s (ls_s (ls_s (ls_s (ls_s (ls_s (ls_s (ls_n ls_e)))))))) (w_X12_feed_76 h hr ih σ i1 i2 i3 i4 i5 i6 i4 z hF)
          · have hF := qI q4 hF
            refine st_iload_3 h dX12_feed_58 ?_
            refine st_goto (t := 76) h dX12_feed_59 (by decide) ?_
            exact st_sub (ls_s (ls_s (ls_s (ls_s (ls_s (ls_s (ls_s (ls_n ls_e)))))))) (w_X12_feed_76 h hr ih σ i1 i2 i3 i4 i5 i6 i3 z hF)
        · have hF := qI q3 hF
          refine st_iload_2 h dX12_feed_47 ?_
          refine st_goto (t := 76) h dX12_feed_48 (by decide) ?_
          exact st_sub (ls_s (ls_s (ls_s (ls_s (ls_s (ls_s (ls_s (ls_n ls_e)))))))) (w_X12_feed_76 h hr ih σ i1 i2 i3 i4 i5 i6 i2 z hF)
      · have hF := qI q2 hF
        refine st_iload_1 h dX12_feed_36 ?_
        refine st_goto (t := 76) h dX12_feed_37 (by decide) ?_
        exact st_sub (ls_s (ls_s (ls_s (ls_s (ls_s (ls_s (ls_s (ls_n ls_e)))))))) (w_X12_feed_76 h hr ih σ i1 i2 i3 i4 i5 i6 i1 z hF)
set_option maxRecDepth 100000 in
set_option maxHeartbeats 4000000 in
theorem w_X12_feed {l : Launch} {G : Gv} {σ : Sto} {i1 : Int32} {i2 : Int32} {i3 : Int32} {i4 : Int32} {i5 : Int32} {z : (Int32 × Sto)} (hF : F_X12_feed σ i1 i2 i3 i4 i5 = some z) : Con l yX12_feed cX12_feed 8 (some .int) 1 G shM νM [.ref 0, .int i1, .int i2, .int i3, .int i4, .int i5] (ovM σ) (some (.int z.1)) (ovM z.2) := by
  rw [F_X12_feed] at hF
  refine Con_enter (own := RX12) 2 (lv := [some (.ref 0), some (.int i1), some (.int i2), some (.int i3), some (.int i4), some (.int i5), none, none]) mi_X12_feed.2.2.2 rfl (Nat.le_of_ble_eq_true rfl) rfl (fun h hr hin => ?_)
  refine st_aload_0 h dX12_feed_0 ?_
  refine st_ic_0 h dX12_feed_1 ?_
  obtain ⟨s1, hs1, hF⟩ := swI hF
  refine pX12_0 h fl_X12_73 dX12_feed_2 (congrArg Prod.fst kM_0) hs1 ?_
  refine st_aload_0 h dX12_feed_5 ?_
  refine gX12_4 h fl_X12_79 dX12_feed_6 (congrArg Prod.fst kM_0) ?_
  refine st_bipush (v := 20) h dX12_feed_9 (by decide) ?_
  refine st_iadd h dX12_feed_11 ?_
  refine st_sipush (v := 500) h dX12_feed_12 (by decide) ?_
  refine st_icmp_le (t := 20) h dX12_feed_15 (by decide) (fun q1 => ?_) (fun q1 => ?_)
  · have hF := pI q1 hF
    refine st_ic_0 h dX12_feed_20 ?_
    refine st_istore_6 h dX12_feed_21 ?_
    exact st_sub (ls_s (ls_s (ls_s (ls_s (ls_s (ls_s (ls_s (ls_n ls_e)))))))) (w_X12_feed_23 h hr FU s1 i1 i2 i3 i4 i5 0 z hF)
  · have hF := qI q1 hF
    refine st_ic_m1 h dX12_feed_18 ?_
    cases hF
    exact st_iret h hr dX12_feed_19
set_option maxRecDepth 100000 in
set_option maxHeartbeats 4000000 in
theorem w_X12_flaw {l : Launch} {G : Gv} {σ : Sto} {i1 : Int32} {z : Sto} (hF : F_X12_flaw σ i1 = some z) : Con l yX12_flaw cX12_flaw 2 none 1 G shM νM [.ref 0, .int i1] (ovM σ) none (ovM z) := by
  rw [F_X12_flaw] at hF
  refine Con_enter (own := RX12) 0 (lv := [some (.ref 0), some (.int i1)]) mi_X12_flaw.2.2.2 rfl (Nat.le_of_ble_eq_true rfl) rfl (fun h hr hin => ?_)
  refine st_aload_0 h dX12_flaw_0 ?_
  refine gX12_7 h fl_X12_82 dX12_flaw_1 (congrArg Prod.fst kM_0) ?_
  refine st_if_le (t := 8) h dX12_flaw_4 (by decide) (fun q1 => ?_) (fun q1 => ?_)
  · have hF := pI q1 hF
    refine st_aload_0 h dX12_flaw_8 ?_
    refine st_iload_1 h dX12_flaw_9 ?_
    obtain ⟨s1, hs1, hF⟩ := swI hF
    refine pX12_7 h fl_X12_82 dX12_flaw_10 (congrArg Prod.fst kM_0) hs1 ?_
    refine st_aload_0 h dX12_flaw_13 ?_
    refine st_aload_0 h dX12_flaw_14 ?_
    refine gX12_10 h fl_X12_85 dX12_flaw_15 (congrArg Prod.fst kM_0) ?_
    obtain ⟨s2, hs2, hF⟩ := swI hF
    refine pX12_8 h fl_X12_88 dX12_flaw_18 (congrArg Prod.fst kM_0) hs2 ?_
    cases hF
    exact st_vret h hr dX12_flaw_21
  · have hF := qI q1 hF
    cases hF
    exact st_vret h hr dX12_flaw_7
set_option maxRecDepth 100000 in
set_option maxHeartbeats 4000000 in
theorem w_X12_isLetterAt {l : Launch} {G : Gv} {σ : Sto} {i1 : Int32} {z : Int32} (hF : F_X12_isLetterAt σ i1 = some z) : Con l yX12_isLetterAt cX12_isLetterAt 2 (some .boolean) 2 G shM νM [.ref 0, .int i1] (ovM σ) (some (.int z)) (ovM σ) := by
  rw [F_X12_isLetterAt] at hF
  refine Con_enter (own := RX12) 0 (lv := [some (.ref 0), some (.int i1)]) mi_X12_isLetterAt.2.2.2 rfl (Nat.le_of_ble_eq_true rfl) rfl (fun h hr hin => ?_)
  refine st_iload_1 h dX12_isLetterAt_0 ?_
  refine st_aload_0 h dX12_isLetterAt_1 ?_
  refine gX12_5 h fl_X12_91 dX12_isLetterAt_2 (congrArg Prod.fst kM_0) ?_
  refine st_icmp_ge (t := 28) h dX12_isLetterAt_5 (by decide) (fun q1 => ?_) (fun q1 => ?_)
  · have hF := pI q1 hF
    refine st_ic_0 h dX12_isLetterAt_28 ?_
    cases hF
    exact st_zret h hr (Or.inl rfl) dX12_isLetterAt_29
  · have hF := qI q1 hF
    refine st_aload_0 h dX12_isLetterAt_8 ?_
    refine gX12_3 h fl_X12_13 dX12_isLetterAt_9 (congrArg Prod.fst kM_0) ?_
    refine st_iload_1 h dX12_isLetterAt_12 ?_
    obtain ⟨g1, hF⟩ := gI hF
    refine iaM h dX12_isLetterAt_13 kM_1 g1 ?_
    refine st_bipush (v := 97) h dX12_isLetterAt_14 (by decide) ?_
    refine st_bipush (v := 122) h dX12_isLetterAt_16 (by decide) ?_
    obtain ⟨x1, hx1, hF⟩ := bI hF
    refine st_cSi (vs := [.int (σ.1 1 (ix i1)), .int 97, .int 122]) (st := []) h (w_X12_in hx1) mi_X12_in ms_X12_in ml_X12_94 dX12_isLetterAt_18 rfl ⟨Nat.le_of_ble_eq_true rfl, Nat.le_of_ble_eq_true rfl⟩ (Nat.le_of_ble_eq_true rfl) rfl ?_
    refine st_if_eq (t := 28) h dX12_isLetterAt_21 (by decide) (fun q2 => ?_) (fun q2 => ?_)
    · have hF := pI q2 hF
      refine st_ic_0 h dX12_isLetterAt_28 ?_
      cases hF
      exact st_zret h hr (Or.inl rfl) dX12_isLetterAt_29
    · have hF := qI q2 hF
      refine st_ic_1 h dX12_isLetterAt_24 ?_
      refine st_goto (t := 29) h dX12_isLetterAt_25 (by decide) ?_
      cases hF
      exact st_zret h hr (Or.inr rfl) dX12_isLetterAt_29
set_option maxRecDepth 100000 in
set_option maxHeartbeats 4000000 in
theorem w_X12_isDigitAt {l : Launch} {G : Gv} {σ : Sto} {i1 : Int32} {z : Int32} (hF : F_X12_isDigitAt σ i1 = some z) : Con l yX12_isDigitAt cX12_isDigitAt 2 (some .boolean) 2 G shM νM [.ref 0, .int i1] (ovM σ) (some (.int z)) (ovM σ) := by
  rw [F_X12_isDigitAt] at hF
  refine Con_enter (own := RX12) 0 (lv := [some (.ref 0), some (.int i1)]) mi_X12_isDigitAt.2.2.2 rfl (Nat.le_of_ble_eq_true rfl) rfl (fun h hr hin => ?_)
  refine st_iload_1 h dX12_isDigitAt_0 ?_
  refine st_aload_0 h dX12_isDigitAt_1 ?_
  refine gX12_5 h fl_X12_91 dX12_isDigitAt_2 (congrArg Prod.fst kM_0) ?_
  refine st_icmp_ge (t := 28) h dX12_isDigitAt_5 (by decide) (fun q1 => ?_) (fun q1 => ?_)
  · have hF := pI q1 hF
    refine st_ic_0 h dX12_isDigitAt_28 ?_
    cases hF
    exact st_zret h hr (Or.inl rfl) dX12_isDigitAt_29
  · have hF := qI q1 hF
    refine st_aload_0 h dX12_isDigitAt_8 ?_
    refine gX12_3 h fl_X12_13 dX12_isDigitAt_9 (congrArg Prod.fst kM_0) ?_
    refine st_iload_1 h dX12_isDigitAt_12 ?_
    obtain ⟨g1, hF⟩ := gI hF
    refine iaM h dX12_isDigitAt_13 kM_1 g1 ?_
    refine st_bipush (v := 48) h dX12_isDigitAt_14 (by decide) ?_
    refine st_bipush (v := 57) h dX12_isDigitAt_16 (by decide) ?_
    obtain ⟨x1, hx1, hF⟩ := bI hF
    refine st_cSi (vs := [.int (σ.1 1 (ix i1)), .int 48, .int 57]) (st := []) h (w_X12_in hx1) mi_X12_in ms_X12_in ml_X12_94 dX12_isDigitAt_18 rfl ⟨Nat.le_of_ble_eq_true rfl, Nat.le_of_ble_eq_true rfl⟩ (Nat.le_of_ble_eq_true rfl) rfl ?_
    refine st_if_eq (t := 28) h dX12_isDigitAt_21 (by decide) (fun q2 => ?_) (fun q2 => ?_)
    · have hF := pI q2 hF
      refine st_ic_0 h dX12_isDigitAt_28 ?_
      cases hF
      exact st_zret h hr (Or.inl rfl) dX12_isDigitAt_29
    · have hF := qI q2 hF
      refine st_ic_1 h dX12_isDigitAt_24 ?_
      refine st_goto (t := 29) h dX12_isDigitAt_25 (by decide) ?_
      cases hF
      exact st_zret h hr (Or.inr rfl) dX12_isDigitAt_29
set_option maxRecDepth 100000 in
set_option maxHeartbeats 4000000 in
theorem w_X12_goOn_321 {p : Program} {l : Launch} {e : Env} {s : State} {m : MethodId} {args : Array Value} {below : List Frame} {meth : Method} {c : Code} {G : Gv} (h : Cx p s m args meth c G cX12_goOn 1 RX12) (hr : meth.sig.returnType = none) : ∀ (σ : Sto) (e1 : Int32) (z : Sto), F_X12_goOn_321 σ e1 = some z → AW p l e (rmD 3 0 0) s m args below meth c (MQ below (QcR G shM νM none (ovM z)) args s 0 0 (gA G)) 0 0 G 1 321 [some (.ref 0)] [.int e1, .ref 0] shM νM (ovM σ) := by
  intro σ e1 z hF
  rw [F_X12_goOn_321] at hF
  obtain ⟨s1, hs1, hF⟩ := swI hF
  refine pX12_9 h fl_X12_101 dX12_goOn_321 (congrArg Prod.fst kM_0) hs1 ?_
  refine st_aload_0 h dX12_goOn_324 ?_
  refine st_dup h rfl dX12_goOn_325 ?_
  refine gX12_6 h fl_X12_98 dX12_goOn_326 (congrArg Prod.fst kM_0) ?_
  refine st_ic_1 h dX12_goOn_329 ?_
  refine st_iadd h dX12_goOn_330 ?_
  obtain ⟨s2, hs2, hF⟩ := swI hF
  refine pX12_6 h fl_X12_98 dX12_goOn_331 (congrArg Prod.fst kM_0) hs2 ?_
  cases hF
  exact st_vret h hr dX12_goOn_334
set_option maxRecDepth 100000 in
set_option maxHeartbeats 4000000 in
theorem w_X12_goOn_316 {p : Program} {l : Launch} {e : Env} {s : State} {m : MethodId} {args : Array Value} {below : List Frame} {meth : Method} {c : Code} {G : Gv} (h : Cx p s m args meth c G cX12_goOn 1 RX12) (hr : meth.sig.returnType = none) : ∀ (σ : Sto) (z : Sto), F_X12_goOn_316 σ  = some z → AW p l e (rmD 3 0 0) s m args below meth c (MQ below (QcR G shM νM none (ovM z)) args s 0 0 (gA G)) 0 0 G 1 316 [some (.ref 0)] [.ref 0] shM νM (ovM σ) := by
  intro σ z hF
  rw [F_X12_goOn_316] at hF
  refine st_ic_4 h dX12_goOn_316 ?_
  refine st_goto (t := 321) h dX12_goOn_317 (by decide) ?_
  exact st_sub (ls_s ls_e) (w_X12_goOn_321 h hr σ 4 z hF)
set_option maxRecDepth 100000 in
set_option maxHeartbeats 4000000 in
theorem w_X12_goOn_278 {p : Program} {l : Launch} {e : Env} {s : State} {m : MethodId} {args : Array Value} {below : List Frame} {meth : Method} {c : Code} {G : Gv} (h : Cx p s m args meth c G cX12_goOn 1 RX12) (hr : meth.sig.returnType = none) : ∀ (σ : Sto) (e1 : Int32) (z : Sto), F_X12_goOn_278 σ e1 = some z → AW p l e (rmD 3 0 0) s m args below meth c (MQ below (QcR G shM νM none (ovM z)) args s 0 0 (gA G)) 0 0 G 1 278 [none] [.int e1, .ref 0] shM νM (ovM σ) := by
  intro σ e1 z hF
  rw [F_X12_goOn_278] at hF
  obtain ⟨s1, hs1, hF⟩ := swI hF
  refine pX12_9 h fl_X12_101 dX12_goOn_278 (congrArg Prod.fst kM_0) hs1 ?_
  refine st_goto (t := 334) h dX12_goOn_281 (by decide) ?_
  cases hF
  exact st_vret h hr dX12_goOn_334
set_option maxRecDepth 100000 in
set_option maxHeartbeats 4000000 in
theorem w_X12_goOn_246 {p : Program} {l : Launch} {e : Env} {s : State} {m : MethodId} {args : Array Value} {below : List Frame} {meth : Method} {c : Code} {G : Gv} (h : Cx p s m args meth c G cX12_goOn 1 RX12) (hr : meth.sig.returnType = none) {k198 : Sto → Option Sto} (H198 : ∀ (σ : Sto) (z : Sto), k198 σ  = some z → AW p l e (rmD 3 0 0) s m args below meth c (MQ below (QcR G shM νM none (ovM z)) args s 0 0 (gA G)) 0 0 G 1 198 [some (.ref 0)] [] shM νM (ovM σ)) : ∀ (σ : Sto) (z : Sto), F_X12_goOn_246 k198 σ  = some z → AW p l e (rmD 3 0 0) s m args below meth c (MQ below (QcR G shM νM none (ovM z)) args s 0 0 (gA G)) 0 0 G 1 246 [some (.ref 0)] [] shM νM (ovM σ) := by
  intro σ z hF
  rw [F_X12_goOn_246] at hF
  refine st_aload_0 h dX12_goOn_246 ?_
  refine st_dup h rfl dX12_goOn_247 ?_
  refine gX12_6 h fl_X12_98 dX12_goOn_248 (congrArg Prod.fst kM_0) ?_
  refine st_ic_1 h dX12_goOn_251 ?_
  refine st_iadd h dX12_goOn_252 ?_
  obtain ⟨s1, hs1, hF⟩ := swI hF
  refine pX12_6 h fl_X12_98 dX12_goOn_253 (congrArg Prod.fst kM_0) hs1 ?_
  refine st_goto (t := 198) h dX12_goOn_256 (by decide) ?_
  exact st_sub (ls_s ls_e) (H198 s1  z hF)
set_option maxRecDepth 100000 in
set_option maxHeartbeats 4000000 in
theorem w_X12_goOn_198 {p : Program} {l : Launch} {e : Env} {s : State} {m : MethodId} {args : Array Value} {below : List Frame} {meth : Method} {c : Code} {G : Gv} (h : Cx p s m args meth c G cX12_goOn 1 RX12) (hr : meth.sig.returnType = none) : ∀ (n : Nat) (σ : Sto) (z : Sto), F_X12_goOn_198 n σ  = some z → AW p l e (rmD 3 0 0) s m args below meth c (MQ below (QcR G shM νM none (ovM z)) args s 0 0 (gA G)) 0 0 G 1 198 [some (.ref 0)] [] shM νM (ovM σ) := by
  intro n
  induction n with
  | zero => intro σ z hF; cases hF
  | succ n ih =>
    intro σ z hF
    rw [F_X12_goOn_198] at hF
    refine st_aload_0 h dX12_goOn_198 ?_
    refine st_aload_0 h dX12_goOn_199 ?_
    refine gX12_6 h fl_X12_98 dX12_goOn_200 (congrArg Prod.fst kM_0) ?_
    obtain ⟨x1, hx1, hF⟩ := bI hF
    refine st_cVi (vs := [.int (σ.1 0 6)]) (st := []) h (w_X12_isDigitAt hx1) mi_X12_isDigitAt mv_X12_isDigitAt ml_X12_116 dX12_goOn_203 kM_0 rfl ⟨Nat.le_of_ble_eq_true rfl, Nat.le_of_ble_eq_true rfl⟩ (Nat.le_of_ble_eq_true rfl) rfl ?_
    refine st_if_eq (t := 259) h dX12_goOn_206 (by decide) (fun q1 => ?_) (fun q1 => ?_)
    · have hF := pI q1 hF
      refine st_aload_0 h dX12_goOn_259 ?_
      refine st_aload_0 h dX12_goOn_260 ?_
      refine gX12_6 h fl_X12_98 dX12_goOn_261 (congrArg Prod.fst kM_0) ?_
      refine st_aload_0 h dX12_goOn_264 ?_
      refine gX12_10 h fl_X12_85 dX12_goOn_265 (congrArg Prod.fst kM_0) ?_
      refine st_isub h dX12_goOn_268 ?_
      refine st_ic_3 h dX12_goOn_269 ?_
      refine st_icmp_le (t := 277) h dX12_goOn_270 (by decide) (fun q2 => ?_) (fun q2 => ?_)
      · have hF := pI q2 hF
        refine st_ic_3 h dX12_goOn_277 ?_
        exact st_sub (ls_n ls_e) (w_X12_goOn_278 h hr σ 3 z hF)
      · have hF := qI q2 hF
        refine st_ic_0 h dX12_goOn_273 ?_
        refine st_goto (t := 278) h dX12_goOn_274 (by decide) ?_
        exact st_sub (ls_n ls_e) (w_X12_goOn_278 h hr σ 0 z hF)
    · have hF := qI q1 hF
      refine st_aload_0 h dX12_goOn_209 ?_
      refine gX12_6 h fl_X12_98 dX12_goOn_210 (congrArg Prod.fst kM_0) ?_
      refine st_aload_0 h dX12_goOn_213 ?_
      refine gX12_10 h fl_X12_85 dX12_goOn_214 (congrArg Prod.fst kM_0) ?_
      refine st_isub h dX12_goOn_217 ?_
      refine st_ic_3 h dX12_goOn_218 ?_
      refine st_icmp_ge (t := 246) h dX12_goOn_219 (by decide) (fun q3 => ?_) (fun q3 => ?_)
      · have hF := pI q3 hF
        exact st_sub (ls_s ls_e) (w_X12_goOn_246 h hr ih σ  z hF)
      · have hF := qI q3 hF
        refine st_aload_0 h dX12_goOn_222 ?_
        refine st_bipush (v := 10) h dX12_goOn_223 (by decide) ?_
        refine st_aload_0 h dX12_goOn_225 ?_
        refine gX12_12 h fl_X12_119 dX12_goOn_226 (congrArg Prod.fst kM_0) ?_
        refine st_imul h dX12_goOn_229 ?_
        refine st_aload_0 h dX12_goOn_230 ?_
        refine gX12_3 h fl_X12_13 dX12_goOn_231 (congrArg Prod.fst kM_0) ?_
        refine st_aload_0 h dX12_goOn_234 ?_
        refine gX12_6 h fl_X12_98 dX12_goOn_235 (congrArg Prod.fst kM_0) ?_
        obtain ⟨g1, hF⟩ := gI hF
        refine iaM h dX12_goOn_238 kM_1 g1 ?_
        refine st_iadd h dX12_goOn_239 ?_
        refine st_bipush (v := 48) h dX12_goOn_240 (by decide) ?_
        refine st_isub h dX12_goOn_242 ?_
        obtain ⟨s1, hs1, hF⟩ := swI hF
        refine pX12_12 h fl_X12_119 dX12_goOn_243 (congrArg Prod.fst kM_0) hs1 ?_
        exact st_sub (ls_s ls_e) (w_X12_goOn_246 h hr ih s1  z hF)
set_option maxRecDepth 100000 in
set_option maxHeartbeats 4000000 in
theorem w_X12_goOn_176 {p : Program} {l : Launch} {e : Env} {s : State} {m : MethodId} {args : Array Value} {below : List Frame} {meth : Method} {c : Code} {G : Gv} (h : Cx p s m args meth c G cX12_goOn 1 RX12) (hr : meth.sig.returnType = none) : ∀ (σ : Sto) (e1 : Int32) (z : Sto), F_X12_goOn_176 σ e1 = some z → AW p l e (rmD 3 0 0) s m args below meth c (MQ below (QcR G shM νM none (ovM z)) args s 0 0 (gA G)) 0 0 G 1 176 [none] [.int e1, .ref 0] shM νM (ovM σ) := by
  intro σ e1 z hF
  rw [F_X12_goOn_176] at hF
  obtain ⟨s1, hs1, hF⟩ := swI hF
  refine pX12_9 h fl_X12_101 dX12_goOn_176 (congrArg Prod.fst kM_0) hs1 ?_
  refine st_goto (t := 334) h dX12_goOn_179 (by decide) ?_
  cases hF
  exact st_vret h hr dX12_goOn_334
set_option maxRecDepth 100000 in
set_option maxHeartbeats 4000000 in
theorem w_X12_goOn_143 {p : Program} {l : Launch} {e : Env} {s : State} {m : MethodId} {args : Array Value} {below : List Frame} {meth : Method} {c : Code} {G : Gv} (h : Cx p s m args meth c G cX12_goOn 1 RX12) (hr : meth.sig.returnType = none) {k89 : Sto → Option Sto} (H89 : ∀ (σ : Sto) (z : Sto), k89 σ  = some z → AW p l e (rmD 3 0 0) s m args below meth c (MQ below (QcR G shM νM none (ovM z)) args s 0 0 (gA G)) 0 0 G 1 89 [some (.ref 0)] [] shM νM (ovM σ)) : ∀ (σ : Sto) (z : Sto), F_X12_goOn_143 k89 σ  = some z → AW p l e (rmD 3 0 0) s m args below meth c (MQ below (QcR G shM νM none (ovM z)) args s 0 0 (gA G)) 0 0 G 1 143 [some (.ref 0)] [] shM νM (ovM σ) := by
  intro σ z hF
  rw [F_X12_goOn_143] at hF
  refine st_aload_0 h dX12_goOn_143 ?_
  refine st_dup h rfl dX12_goOn_144 ?_
  refine gX12_6 h fl_X12_98 dX12_goOn_145 (congrArg Prod.fst kM_0) ?_
  refine st_ic_1 h dX12_goOn_148 ?_
  refine st_iadd h dX12_goOn_149 ?_
  obtain ⟨s1, hs1, hF⟩ := swI hF
  refine pX12_6 h fl_X12_98 dX12_goOn_150 (congrArg Prod.fst kM_0) hs1 ?_
  refine st_goto (t := 89) h dX12_goOn_153 (by decide) ?_
  exact st_sub (ls_s ls_e) (H89 s1  z hF)
set_option maxRecDepth 100000 in
set_option maxHeartbeats 4000000 in
theorem w_X12_goOn_89 {p : Program} {l : Launch} {e : Env} {s : State} {m : MethodId} {args : Array Value} {below : List Frame} {meth : Method} {c : Code} {G : Gv} (h : Cx p s m args meth c G cX12_goOn 1 RX12) (hr : meth.sig.returnType = none) : ∀ (n : Nat) (σ : Sto) (z : Sto), F_X12_goOn_89 n σ  = some z → AW p l e (rmD 3 0 0) s m args below meth c (MQ below (QcR G shM νM none (ovM z)) args s 0 0 (gA G)) 0 0 G 1 89 [some (.ref 0)] [] shM νM (ovM σ) := by
  intro n
  induction n with
  | zero => intro σ z hF; cases hF
  | succ n ih =>
    intro σ z hF
    rw [F_X12_goOn_89] at hF
    refine st_aload_0 h dX12_goOn_89 ?_
    refine st_aload_0 h dX12_goOn_90 ?_
    refine gX12_6 h fl_X12_98 dX12_goOn_91 (congrArg Prod.fst kM_0) ?_
    obtain ⟨x1, hx1, hF⟩ := bI hF
    refine st_cVi (vs := [.int (σ.1 0 6)]) (st := []) h (w_X12_isLetterAt hx1) mi_X12_isLetterAt mv_X12_isLetterAt ml_X12_104 dX12_goOn_94 kM_0 rfl ⟨Nat.le_of_ble_eq_true rfl, Nat.le_of_ble_eq_true rfl⟩ (Nat.le_of_ble_eq_true rfl) rfl ?_
    refine st_if_eq (t := 156) h dX12_goOn_97 (by decide) (fun q1 => ?_) (fun q1 => ?_)
    · have hF := pI q1 hF
      refine st_aload_0 h dX12_goOn_156 ?_
      refine st_aload_0 h dX12_goOn_157 ?_
      refine gX12_6 h fl_X12_98 dX12_goOn_158 (congrArg Prod.fst kM_0) ?_
      refine st_aload_0 h dX12_goOn_161 ?_
      refine gX12_10 h fl_X12_85 dX12_goOn_162 (congrArg Prod.fst kM_0) ?_
      refine st_isub h dX12_goOn_165 ?_
      refine st_bipush (v := 7) h dX12_goOn_166 (by decide) ?_
      refine st_icmp_le (t := 175) h dX12_goOn_168 (by decide) (fun q2 => ?_) (fun q2 => ?_)
      · have hF := pI q2 hF
        refine st_ic_2 h dX12_goOn_175 ?_
        exact st_sub (ls_n ls_e) (w_X12_goOn_176 h hr σ 2 z hF)
      · have hF := qI q2 hF
        refine st_ic_0 h dX12_goOn_171 ?_
        refine st_goto (t := 176) h dX12_goOn_172 (by decide) ?_
        exact st_sub (ls_n ls_e) (w_X12_goOn_176 h hr σ 0 z hF)
    · have hF := qI q1 hF
      refine st_aload_0 h dX12_goOn_100 ?_
      refine gX12_6 h fl_X12_98 dX12_goOn_101 (congrArg Prod.fst kM_0) ?_
      refine st_aload_0 h dX12_goOn_104 ?_
      refine gX12_10 h fl_X12_85 dX12_goOn_105 (congrArg Prod.fst kM_0) ?_
      refine st_isub h dX12_goOn_108 ?_
      refine st_bipush (v := 7) h dX12_goOn_109 (by decide) ?_
      refine st_icmp_ge (t := 143) h dX12_goOn_111 (by decide) (fun q3 => ?_) (fun q3 => ?_)
      · have hF := pI q3 hF
        exact st_sub (ls_s ls_e) (w_X12_goOn_143 h hr ih σ  z hF)
      · have hF := qI q3 hF
        refine st_aload_0 h dX12_goOn_114 ?_
        refine st_aload_0 h dX12_goOn_115 ?_
        refine gX12_13 h fl_X12_108 dX12_goOn_116 (congrArg Prod.fst kM_0) ?_
        refine st_ldc2 h cl_X12_112 dX12_goOn_119 ?_
        refine st_lmul h dX12_goOn_122 ?_
        refine st_aload_0 h dX12_goOn_123 ?_
        refine gX12_3 h fl_X12_13 dX12_goOn_124 (congrArg Prod.fst kM_0) ?_
        refine st_aload_0 h dX12_goOn_127 ?_
        refine gX12_6 h fl_X12_98 dX12_goOn_128 (congrArg Prod.fst kM_0) ?_
        obtain ⟨g1, hF⟩ := gI hF
        refine iaM h dX12_goOn_131 kM_1 g1 ?_
        refine st_i2l h dX12_goOn_132 ?_
        refine st_ladd h dX12_goOn_133 ?_
        refine st_ldc2 h cl_X12_114 dX12_goOn_134 ?_
        refine st_lsub h dX12_goOn_137 ?_
        refine st_lconst (v := 1) h dX12_goOn_138 (by decide) ?_
        refine st_ladd h dX12_goOn_139 ?_
        obtain ⟨s1, hs1, hF⟩ := swI hF
        refine pX12_13 h fl_X12_108 dX12_goOn_140 (congrArg Prod.fst kM_0) hs1 ?_
        exact st_sub (ls_s ls_e) (w_X12_goOn_143 h hr ih s1  z hF)
set_option maxRecDepth 100000 in
set_option maxHeartbeats 4000000 in
theorem w_X12_goOn_46 {p : Program} {l : Launch} {e : Env} {s : State} {m : MethodId} {args : Array Value} {below : List Frame} {meth : Method} {c : Code} {G : Gv} (h : Cx p s m args meth c G cX12_goOn 1 RX12) (hr : meth.sig.returnType = none) : ∀ (σ : Sto) (z : Sto), F_X12_goOn_46 σ  = some z → AW p l e (rmD 3 0 0) s m args below meth c (MQ below (QcR G shM νM none (ovM z)) args s 0 0 (gA G)) 0 0 G 1 46 [some (.ref 0)] [] shM νM (ovM σ) := by
  intro σ z hF
  rw [F_X12_goOn_46] at hF
  refine st_aload_0 h dX12_goOn_46 ?_
  refine st_aload_0 h dX12_goOn_47 ?_
  refine gX12_6 h fl_X12_98 dX12_goOn_48 (congrArg Prod.fst kM_0) ?_
  obtain ⟨s1, hs1, hF⟩ := swI hF
  refine pX12_10 h fl_X12_85 dX12_goOn_51 (congrArg Prod.fst kM_0) hs1 ?_
  refine st_aload_0 h dX12_goOn_54 ?_
  refine gX12_6 h fl_X12_98 dX12_goOn_55 (congrArg Prod.fst kM_0) ?_
  refine st_aload_0 h dX12_goOn_58 ?_
  refine gX12_5 h fl_X12_91 dX12_goOn_59 (congrArg Prod.fst kM_0) ?_
  refine st_icmp_ne (t := 73) h dX12_goOn_62 (by decide) (fun q1 => ?_) (fun q1 => ?_)
  · have hF := qI q1 hF
    refine st_aload_0 h dX12_goOn_73 ?_
    refine st_aload_0 h dX12_goOn_74 ?_
    refine gX12_6 h fl_X12_98 dX12_goOn_75 (congrArg Prod.fst kM_0) ?_
    obtain ⟨x1, hx1, hF⟩ := bI hF
    refine st_cVi (vs := [.int (s1.1 0 6)]) (st := []) h (w_X12_isLetterAt hx1) mi_X12_isLetterAt mv_X12_isLetterAt ml_X12_104 dX12_goOn_78 kM_0 rfl ⟨Nat.le_of_ble_eq_true rfl, Nat.le_of_ble_eq_true rfl⟩ (Nat.le_of_ble_eq_true rfl) rfl ?_
    refine st_if_eq (t := 182) h dX12_goOn_81 (by decide) (fun q2 => ?_) (fun q2 => ?_)
    · have hF := pI q2 hF
      refine st_aload_0 h dX12_goOn_182 ?_
      refine st_aload_0 h dX12_goOn_183 ?_
      refine gX12_6 h fl_X12_98 dX12_goOn_184 (congrArg Prod.fst kM_0) ?_
      obtain ⟨x2, hx2, hF⟩ := bI hF
      refine st_cVi (vs := [.int (s1.1 0 6)]) (st := []) h (w_X12_isDigitAt hx2) mi_X12_isDigitAt mv_X12_isDigitAt ml_X12_116 dX12_goOn_187 kM_0 rfl ⟨Nat.le_of_ble_eq_true rfl, Nat.le_of_ble_eq_true rfl⟩ (Nat.le_of_ble_eq_true rfl) rfl ?_
      refine st_if_eq (t := 284) h dX12_goOn_190 (by decide) (fun q3 => ?_) (fun q3 => ?_)
      · have hF := pI q3 hF
        refine st_aload_0 h dX12_goOn_284 ?_
        refine st_aload_0 h dX12_goOn_285 ?_
        refine gX12_3 h fl_X12_13 dX12_goOn_286 (congrArg Prod.fst kM_0) ?_
        refine st_aload_0 h dX12_goOn_289 ?_
        refine gX12_6 h fl_X12_98 dX12_goOn_290 (congrArg Prod.fst kM_0) ?_
        obtain ⟨g1, hF⟩ := gI hF
        refine iaM h dX12_goOn_293 kM_1 g1 ?_
        obtain ⟨s2, hs2, hF⟩ := swI hF
        refine pX12_11 h fl_X12_122 dX12_goOn_294 (congrArg Prod.fst kM_0) hs2 ?_
        refine st_aload_0 h dX12_goOn_297 ?_
        refine st_aload_0 h dX12_goOn_298 ?_
        refine gX12_11 h fl_X12_122 dX12_goOn_299 (congrArg Prod.fst kM_0) ?_
        refine st_bipush (v := 59) h dX12_goOn_302 (by decide) ?_
        refine st_icmp_eq (t := 316) h dX12_goOn_304 (by decide) (fun q4 => ?_) (fun q4 => ?_)
        · have hF := pI q4 hF
          exact st_sub (ls_s ls_e) (w_X12_goOn_316 h hr s2  z hF)
        · have hF := qI q4 hF
          refine st_aload_0 h dX12_goOn_307 ?_
          refine gX12_11 h fl_X12_122 dX12_goOn_308 (congrArg Prod.fst kM_0) ?_
          refine st_bipush (v := 44) h dX12_goOn_311 (by decide) ?_
          refine st_icmp_ne (t := 320) h dX12_goOn_313 (by decide) (fun q5 => ?_) (fun q5 => ?_)
          · have hF := qI q5 hF
            refine st_ic_0 h dX12_goOn_320 ?_
            exact st_sub (ls_s ls_e) (w_X12_goOn_321 h hr s2 0 z hF)
          · have hF := pI q5 hF
            exact st_sub (ls_s ls_e) (w_X12_goOn_316 h hr s2  z hF)
      · have hF := qI q3 hF
        refine st_aload_0 h dX12_goOn_193 ?_
        refine st_ic_0 h dX12_goOn_194 ?_
        obtain ⟨s3, hs3, hF⟩ := swI hF
        refine pX12_12 h fl_X12_119 dX12_goOn_195 (congrArg Prod.fst kM_0) hs3 ?_
        exact st_sub (ls_s ls_e) (w_X12_goOn_198 h hr FU s3  z hF)
    · have hF := qI q2 hF
      refine st_aload_0 h dX12_goOn_84 ?_
      refine st_lconst (v := 0) h dX12_goOn_85 (by decide) ?_
      obtain ⟨s4, hs4, hF⟩ := swI hF
      refine pX12_13 h fl_X12_108 dX12_goOn_86 (congrArg Prod.fst kM_0) hs4 ?_
      exact st_sub (ls_s ls_e) (w_X12_goOn_89 h hr FU s4  z hF)
  · have hF := pI q1 hF
    refine st_aload_0 h dX12_goOn_65 ?_
    refine st_ic_1 h dX12_goOn_66 ?_
    obtain ⟨s5, hs5, hF⟩ := swI hF
    refine pX12_9 h fl_X12_101 dX12_goOn_67 (congrArg Prod.fst kM_0) hs5 ?_
    refine st_goto (t := 334) h dX12_goOn_70 (by decide) ?_
    cases hF
    exact st_vret h hr dX12_goOn_334
set_option maxRecDepth 100000 in
set_option maxHeartbeats 4000000 in
theorem w_X12_goOn_8 {p : Program} {l : Launch} {e : Env} {s : State} {m : MethodId} {args : Array Value} {below : List Frame} {meth : Method} {c : Code} {G : Gv} (h : Cx p s m args meth c G cX12_goOn 1 RX12) (hr : meth.sig.returnType = none) : ∀ (n : Nat) (σ : Sto) (z : Sto), F_X12_goOn_8 n σ  = some z → AW p l e (rmD 3 0 0) s m args below meth c (MQ below (QcR G shM νM none (ovM z)) args s 0 0 (gA G)) 0 0 G 1 8 [some (.ref 0)] [] shM νM (ovM σ) := by
  intro n
  induction n with
  | zero => intro σ z hF; cases hF
  | succ n ih =>
    intro σ z hF
    rw [F_X12_goOn_8] at hF
    refine st_aload_0 h dX12_goOn_8 ?_
    refine gX12_6 h fl_X12_98 dX12_goOn_9 (congrArg Prod.fst kM_0) ?_
    refine st_aload_0 h dX12_goOn_12 ?_
    refine gX12_5 h fl_X12_91 dX12_goOn_13 (congrArg Prod.fst kM_0) ?_
    refine st_icmp_ge (t := 46) h dX12_goOn_16 (by decide) (fun q1 => ?_) (fun q1 => ?_)
    · have hF := pI q1 hF
      exact st_sub (ls_s ls_e) (w_X12_goOn_46 h hr σ  z hF)
    · have hF := qI q1 hF
      refine st_aload_0 h dX12_goOn_19 ?_
      refine gX12_3 h fl_X12_13 dX12_goOn_20 (congrArg Prod.fst kM_0) ?_
      refine st_aload_0 h dX12_goOn_23 ?_
      refine gX12_6 h fl_X12_98 dX12_goOn_24 (congrArg Prod.fst kM_0) ?_
      obtain ⟨g1, hF⟩ := gI hF
      refine iaM h dX12_goOn_27 kM_1 g1 ?_
      refine st_bipush (v := 32) h dX12_goOn_28 (by decide) ?_
      refine st_icmp_ne (t := 46) h dX12_goOn_30 (by decide) (fun q2 => ?_) (fun q2 => ?_)
      · have hF := qI q2 hF
        exact st_sub (ls_s ls_e) (w_X12_goOn_46 h hr σ  z hF)
      · have hF := pI q2 hF
        refine st_aload_0 h dX12_goOn_33 ?_
        refine st_dup h rfl dX12_goOn_34 ?_
        refine gX12_6 h fl_X12_98 dX12_goOn_35 (congrArg Prod.fst kM_0) ?_
        refine st_ic_1 h dX12_goOn_38 ?_
        refine st_iadd h dX12_goOn_39 ?_
        obtain ⟨s1, hs1, hF⟩ := swI hF
        refine pX12_6 h fl_X12_98 dX12_goOn_40 (congrArg Prod.fst kM_0) hs1 ?_
        refine st_goto (t := 8) h dX12_goOn_43 (by decide) ?_
        exact st_sub (ls_s ls_e) (ih s1  z hF)
set_option maxRecDepth 100000 in
set_option maxHeartbeats 4000000 in
theorem w_X12_goOn {l : Launch} {G : Gv} {σ : Sto} {z : Sto} (hF : F_X12_goOn σ  = some z) : Con l yX12_goOn cX12_goOn 1 none 3 G shM νM [.ref 0] (ovM σ) none (ovM z) := by
  rw [F_X12_goOn] at hF
  refine Con_enter (own := RX12) 0 (lv := [some (.ref 0)]) mi_X12_goOn.2.2.2 rfl (Nat.le_of_ble_eq_true rfl) rfl (fun h hr hin => ?_)
  refine st_aload_0 h dX12_goOn_0 ?_
  refine gX12_7 h fl_X12_82 dX12_goOn_1 (congrArg Prod.fst kM_0) ?_
  refine st_if_le (t := 8) h dX12_goOn_4 (by decide) (fun q1 => ?_) (fun q1 => ?_)
  · have hF := pI q1 hF
    exact st_sub (ls_s ls_e) (w_X12_goOn_8 h hr FU σ  z hF)
  · have hF := qI q1 hF
    cases hF
    exact st_vret h hr dX12_goOn_7
set_option maxRecDepth 100000 in
set_option maxHeartbeats 4000000 in
theorem w_X12_wordOf_4 {p : Program} {l : Launch} {e : Env} {s : State} {m : MethodId} {args : Array Value} {below : List Frame} {meth : Method} {c : Code} {G : Gv} (h : Cx p s m args meth c G cX12_wordOf 4 RX12) (hr : meth.sig.returnType = (some .long)) : ∀ (n : Nat) (σ : Sto) (t0 : Nat) (l1 : Int64) (i3 : Int32) (z : Int64), F_X12_wordOf_4 n σ t0 l1 i3 = some z → AW p l e (rmD 6 0 0) s m args below meth c (MQ below (QcR G shM νM (some (.long z)) (ovM σ)) args s 0 0 (gA G)) 0 0 G 4 4 [some (.retAddr t0), some (.long l1), none, some (.int i3)] [] shM νM (ovM σ) := by
  intro n
  induction n with
  | zero => intro σ t0 l1 i3 z hF; cases hF
  | succ n ih =>
    intro σ t0 l1 i3 z hF
    rw [F_X12_wordOf_4] at hF
    refine st_iload_3 h dX12_wordOf_4 ?_
    refine st_tload_0 h dX12_wordOf_5 ?_
    obtain ⟨g1, hF⟩ := gI hF
    refine st_slen h ml_X12_125 dX12_wordOf_6 g1 ⟨Nat.le_of_ble_eq_true rfl, Nat.le_of_ble_eq_true rfl⟩ (Nat.le_of_ble_eq_true rfl) ?_
    refine st_icmp_ge (t := 37) h dX12_wordOf_9 (by decide) (fun q1 => ?_) (fun q1 => ?_)
    · have hF := pI q1 hF
      refine st_lload_1 h dX12_wordOf_37 ?_
      cases hF
      exact st_lret h hr dX12_wordOf_38
    · have hF := qI q1 hF
      refine st_lload_1 h dX12_wordOf_12 ?_
      refine st_ldc2 h cl_X12_112 dX12_wordOf_13 ?_
      refine st_lmul h dX12_wordOf_16 ?_
      refine st_tload_0 h dX12_wordOf_17 ?_
      refine st_iload_3 h dX12_wordOf_18 ?_
      obtain ⟨g2, hF⟩ := gI hF
      refine st_schar h ml_X12_131 dX12_wordOf_19 g1 g2 ⟨Nat.le_of_ble_eq_true rfl, Nat.le_of_ble_eq_true rfl⟩ (Nat.le_of_ble_eq_true rfl) ?_
      refine st_i2l h dX12_wordOf_22 ?_
      refine st_ladd h dX12_wordOf_23 ?_
      refine st_ldc2 h cl_X12_114 dX12_wordOf_24 ?_
      refine st_lsub h dX12_wordOf_27 ?_
      refine st_lconst (v := 1) h dX12_wordOf_28 (by decide) ?_
      refine st_ladd h dX12_wordOf_29 ?_
      obtain ⟨v1, hv1, hF⟩ := swI hF
      refine st_nml hv1 ?_
      refine st_lstore_1 h dX12_wordOf_30 ?_
      refine st_iinc_3 (y := i3 + 1) h dX12_wordOf_31 (ii_1 _) ?_
      refine st_goto (t := 4) h dX12_wordOf_34 (by decide) ?_
      exact st_sub (ls_s (ls_s (ls_n (ls_s ls_e)))) (ih σ t0 v1 (i3 + 1) z hF)
set_option maxRecDepth 100000 in
set_option maxHeartbeats 4000000 in
theorem w_X12_wordOf {l : Launch} {G : Gv} {σ : Sto} {t0 : Nat} {z : Int64} (hF : F_X12_wordOf σ t0 = some z) : Con l yX12_wordOf cX12_wordOf 4 (some .long) 6 G shM νM [.retAddr t0] (ovM σ) (some (.long z)) (ovM σ) := by
  rw [F_X12_wordOf] at hF
  refine Con_enter (own := RX12) 3 (lv := [some (.retAddr t0), none, none, none]) mi_X12_wordOf.2.2.2 rfl (Nat.le_of_ble_eq_true rfl) rfl (fun h hr hin => ?_)
  refine st_lconst (v := 0) h dX12_wordOf_0 (by decide) ?_
  refine st_lstore_1 h dX12_wordOf_1 ?_
  refine st_ic_0 h dX12_wordOf_2 ?_
  refine st_istore_3 h dX12_wordOf_3 ?_
  exact st_sub (ls_s (ls_s (ls_n (ls_s ls_e)))) (w_X12_wordOf_4 h hr FU σ t0 0 0 z hF)
set_option maxRecDepth 100000 in
set_option maxHeartbeats 4000000 in
theorem w_X12_isWord {l : Launch} {G : Gv} {σ : Sto} {t1 : Nat} {z : Int32} (hF : F_X12_isWord σ t1 = some z) : Con l yX12_isWord cX12_isWord 2 (some .boolean) 7 G shM νM [.ref 0, .retAddr t1] (ovM σ) (some (.int z)) (ovM σ) := by
  rw [F_X12_isWord] at hF
  refine Con_enter (own := RX12) 0 (lv := [some (.ref 0), some (.retAddr t1)]) mi_X12_isWord.2.2.2 rfl (Nat.le_of_ble_eq_true rfl) rfl (fun h hr hin => ?_)
  refine st_aload_0 h dX12_isWord_0 ?_
  refine gX12_7 h fl_X12_82 dX12_isWord_1 (congrArg Prod.fst kM_0) ?_
  refine st_if_ne (t := 31) h dX12_isWord_4 (by decide) (fun q1 => ?_) (fun q1 => ?_)
  · have hF := qI q1 hF
    refine st_ic_0 h dX12_isWord_31 ?_
    cases hF
    exact st_zret h hr (Or.inl rfl) dX12_isWord_32
  · have hF := pI q1 hF
    refine st_aload_0 h dX12_isWord_7 ?_
    refine gX12_9 h fl_X12_101 dX12_isWord_8 (congrArg Prod.fst kM_0) ?_
    refine st_ic_2 h dX12_isWord_11 ?_
    refine st_icmp_ne (t := 31) h dX12_isWord_12 (by decide) (fun q2 => ?_) (fun q2 => ?_)
    · have hF := qI q2 hF
      refine st_ic_0 h dX12_isWord_31 ?_
      cases hF
      exact st_zret h hr (Or.inl rfl) dX12_isWord_32
    · have hF := pI q2 hF
      refine st_aload_0 h dX12_isWord_15 ?_
      refine gX12_13 h fl_X12_108 dX12_isWord_16 (congrArg Prod.fst kM_0) ?_
      refine st_tload_1 h dX12_isWord_19 ?_
      obtain ⟨x1, hx1, hF⟩ := bI hF
      refine st_cSl (vs := [.retAddr t1]) (st := [.long (σ.2.1 0 13)]) h (w_X12_wordOf hx1) mi_X12_wordOf ms_X12_wordOf ml_X12_135 dX12_isWord_20 rfl ⟨Nat.le_of_ble_eq_true rfl, Nat.le_of_ble_eq_true rfl⟩ (Nat.le_of_ble_eq_true rfl) rfl ?_
      refine st_lcmp h dX12_isWord_23 ?_
      refine st_if_ne (t := 31) h dX12_isWord_24 (by decide) (fun q3 => ?_) (fun q3 => ?_)
      · have hF := qI q3 hF
        refine st_ic_0 h dX12_isWord_31 ?_
        cases hF
        exact st_zret h hr (Or.inl rfl) dX12_isWord_32
      · have hF := pI q3 hF
        refine st_ic_1 h dX12_isWord_27 ?_
        refine st_goto (t := 32) h dX12_isWord_28 (by decide) ?_
        cases hF
        exact st_zret h hr (Or.inr rfl) dX12_isWord_32
set_option maxRecDepth 100000 in
set_option maxHeartbeats 4000000 in
theorem w_X12_isSign {l : Launch} {G : Gv} {σ : Sto} {i1 : Int32} {z : Int32} (hF : F_X12_isSign σ i1 = some z) : Con l yX12_isSign cX12_isSign 2 (some .boolean) 1 G shM νM [.ref 0, .int i1] (ovM σ) (some (.int z)) (ovM σ) := by
  rw [F_X12_isSign] at hF
  refine Con_enter (own := RX12) 0 (lv := [some (.ref 0), some (.int i1)]) mi_X12_isSign.2.2.2 rfl (Nat.le_of_ble_eq_true rfl) rfl (fun h hr hin => ?_)
  refine st_aload_0 h dX12_isSign_0 ?_
  refine gX12_7 h fl_X12_82 dX12_isSign_1 (congrArg Prod.fst kM_0) ?_
  refine st_if_ne (t := 27) h dX12_isSign_4 (by decide) (fun q1 => ?_) (fun q1 => ?_)
  · have hF := qI q1 hF
    refine st_ic_0 h dX12_isSign_27 ?_
    cases hF
    exact st_zret h hr (Or.inl rfl) dX12_isSign_28
  · have hF := pI q1 hF
    refine st_aload_0 h dX12_isSign_7 ?_
    refine gX12_9 h fl_X12_101 dX12_isSign_8 (congrArg Prod.fst kM_0) ?_
    refine st_ic_4 h dX12_isSign_11 ?_
    refine st_icmp_ne (t := 27) h dX12_isSign_12 (by decide) (fun q2 => ?_) (fun q2 => ?_)
    · have hF := qI q2 hF
      refine st_ic_0 h dX12_isSign_27 ?_
      cases hF
      exact st_zret h hr (Or.inl rfl) dX12_isSign_28
    · have hF := pI q2 hF
      refine st_aload_0 h dX12_isSign_15 ?_
      refine gX12_11 h fl_X12_122 dX12_isSign_16 (congrArg Prod.fst kM_0) ?_
      refine st_iload_1 h dX12_isSign_19 ?_
      refine st_icmp_ne (t := 27) h dX12_isSign_20 (by decide) (fun q3 => ?_) (fun q3 => ?_)
      · have hF := qI q3 hF
        refine st_ic_0 h dX12_isSign_27 ?_
        cases hF
        exact st_zret h hr (Or.inl rfl) dX12_isSign_28
      · have hF := pI q3 hF
        refine st_ic_1 h dX12_isSign_23 ?_
        refine st_goto (t := 28) h dX12_isSign_24 (by decide) ?_
        cases hF
        exact st_zret h hr (Or.inr rfl) dX12_isSign_28
set_option maxRecDepth 100000 in
set_option maxHeartbeats 4000000 in
theorem w_X12_needs_13 {p : Program} {l : Launch} {e : Env} {s : State} {m : MethodId} {args : Array Value} {below : List Frame} {meth : Method} {c : Code} {G : Gv} (h : Cx p s m args meth c G cX12_needs 2 RX12) (hr : meth.sig.returnType = none) : ∀ (σ : Sto) (z : Sto), F_X12_needs_13 σ  = some z → AW p l e (rmD 8 0 0) s m args below meth c (MQ below (QcR G shM νM none (ovM z)) args s 0 0 (gA G)) 0 0 G 2 13 [some (.ref 0), none] [] shM νM (ovM σ) := by
  intro σ z hF
  rw [F_X12_needs_13] at hF
  refine st_aload_0 h dX12_needs_13 ?_
  obtain ⟨x1, hx1, hF⟩ := bI hF
  refine st_cVv (vs := []) (st := []) h (w_X12_goOn hx1) mi_X12_goOn mv_X12_goOn ml_X12_147 dX12_needs_14 kM_0 rfl ⟨Nat.le_of_ble_eq_true rfl, Nat.le_of_ble_eq_true rfl⟩ (Nat.le_of_ble_eq_true rfl) rfl ?_
  cases hF
  exact st_vret h hr dX12_needs_17
set_option maxRecDepth 100000 in
set_option maxHeartbeats 4000000 in
theorem w_X12_needs {l : Launch} {G : Gv} {σ : Sto} {t1 : Nat} {z : Sto} (hF : F_X12_needs σ t1 = some z) : Con l yX12_needs cX12_needs 2 none 8 G shM νM [.ref 0, .retAddr t1] (ovM σ) none (ovM z) := by
  rw [F_X12_needs] at hF
  refine Con_enter (own := RX12) 0 (lv := [some (.ref 0), some (.retAddr t1)]) mi_X12_needs.2.2.2 rfl (Nat.le_of_ble_eq_true rfl) rfl (fun h hr hin => ?_)
  refine st_aload_0 h dX12_needs_0 ?_
  refine st_tload_1 h dX12_needs_1 ?_
  obtain ⟨x1, hx1, hF⟩ := bI hF
  refine st_cVi (vs := [.retAddr t1]) (st := []) h (w_X12_isWord hx1) mi_X12_isWord mv_X12_isWord ml_X12_139 dX12_needs_2 kM_0 rfl ⟨Nat.le_of_ble_eq_true rfl, Nat.le_of_ble_eq_true rfl⟩ (Nat.le_of_ble_eq_true rfl) rfl ?_
  refine st_if_ne (t := 13) h dX12_needs_5 (by decide) (fun q1 => ?_) (fun q1 => ?_)
  · have hF := qI q1 hF
    exact st_sub (ls_s (ls_n ls_e)) (w_X12_needs_13 h hr σ  z hF)
  · have hF := pI q1 hF
    refine st_aload_0 h dX12_needs_8 ?_
    refine st_ic_1 h dX12_needs_9 ?_
    obtain ⟨x2, hx2, hF⟩ := bI hF
    refine st_cVv (vs := [.int 1]) (st := []) h (w_X12_flaw hx2) mi_X12_flaw mv_X12_flaw ml_X12_143 dX12_needs_10 kM_0 rfl ⟨Nat.le_of_ble_eq_true rfl, Nat.le_of_ble_eq_true rfl⟩ (Nat.le_of_ble_eq_true rfl) rfl ?_
    exact st_sub (ls_s (ls_n ls_e)) (w_X12_needs_13 h hr x2  z hF)
set_option maxRecDepth 100000 in
set_option maxHeartbeats 4000000 in
theorem w_X12_isOwn_118 {p : Program} {l : Launch} {e : Env} {s : State} {m : MethodId} {args : Array Value} {below : List Frame} {meth : Method} {c : Code} {G : Gv} (h : Cx p s m args meth c G cX12_isOwn 2 RX12) (hr : meth.sig.returnType = (some .boolean)) : ∀ (σ : Sto) (z : Int32), F_X12_isOwn_118 σ  = some z → AW p l e (rmD 8 0 0) s m args below meth c (MQ below (QcR G shM νM (some (.int z)) (ovM σ)) args s 0 0 (gA G)) 0 0 G 2 118 [none, none] [] shM νM (ovM σ) := by
  intro σ z hF
  rw [F_X12_isOwn_118] at hF
  refine st_ic_1 h dX12_isOwn_118 ?_
  refine st_goto (t := 123) h dX12_isOwn_119 (by decide) ?_
  cases hF
  exact st_zret h hr (Or.inr rfl) dX12_isOwn_123
set_option maxRecDepth 100000 in
set_option maxHeartbeats 4000000 in
theorem w_X12_isOwn_59 {p : Program} {l : Launch} {e : Env} {s : State} {m : MethodId} {args : Array Value} {below : List Frame} {meth : Method} {c : Code} {G : Gv} (h : Cx p s m args meth c G cX12_isOwn 2 RX12) (hr : meth.sig.returnType = (some .boolean)) : ∀ (σ : Sto) (e0 : Int32) (z : Int32), F_X12_isOwn_59 σ e0 = some z → AW p l e (rmD 8 0 0) s m args below meth c (MQ below (QcR G shM νM (some (.int z)) (ovM σ)) args s 0 0 (gA G)) 0 0 G 2 59 [some (.ref 0), none] [.int e0] shM νM (ovM σ) := by
  intro σ e0 z hF
  rw [F_X12_isOwn_59] at hF
  refine st_istore_1 h dX12_isOwn_59 ?_
  refine st_iload_1 h dX12_isOwn_60 ?_
  refine st_if_ne (t := 118) h dX12_isOwn_61 (by decide) (fun q1 => ?_) (fun q1 => ?_)
  · have hF := qI q1 hF
    exact st_sub (ls_n (ls_n ls_e)) (w_X12_isOwn_118 h hr σ  z hF)
  · have hF := pI q1 hF
    refine st_aload_0 h dX12_isOwn_64 ?_
    refine st_ldcS (tx := "target") (i := 6) h (by decide +kernel) dX12_isOwn_65 ?_
    obtain ⟨x1, hx1, hF⟩ := bI hF
    refine st_cVi (vs := [.retAddr 6]) (st := []) h (w_X12_isWord hx1) mi_X12_isWord mv_X12_isWord ml_X12_139 dX12_isOwn_67 kM_0 rfl ⟨Nat.le_of_ble_eq_true rfl, Nat.le_of_ble_eq_true rfl⟩ (Nat.le_of_ble_eq_true rfl) rfl ?_
    refine st_if_ne (t := 118) h dX12_isOwn_70 (by decide) (fun q2 => ?_) (fun q2 => ?_)
    · have hF := qI q2 hF
      exact st_sub (ls_n (ls_n ls_e)) (w_X12_isOwn_118 h hr σ  z hF)
    · have hF := pI q2 hF
      refine st_aload_0 h dX12_isOwn_73 ?_
      refine st_ldcS (tx := "buyer") (i := 7) h (by decide +kernel) dX12_isOwn_74 ?_
      obtain ⟨x2, hx2, hF⟩ := bI hF
      refine st_cVi (vs := [.retAddr 7]) (st := []) h (w_X12_isWord hx2) mi_X12_isWord mv_X12_isWord ml_X12_139 dX12_isOwn_76 kM_0 rfl ⟨Nat.le_of_ble_eq_true rfl, Nat.le_of_ble_eq_true rfl⟩ (Nat.le_of_ble_eq_true rfl) rfl ?_
      refine st_if_ne (t := 118) h dX12_isOwn_79 (by decide) (fun q3 => ?_) (fun q3 => ?_)
      · have hF := qI q3 hF
        exact st_sub (ls_n (ls_n ls_e)) (w_X12_isOwn_118 h hr σ  z hF)
      · have hF := pI q3 hF
        refine st_aload_0 h dX12_isOwn_82 ?_
        refine st_ldcS (tx := "index") (i := 8) h (by decide +kernel) dX12_isOwn_83 ?_
        obtain ⟨x3, hx3, hF⟩ := bI hF
        refine st_cVi (vs := [.retAddr 8]) (st := []) h (w_X12_isWord hx3) mi_X12_isWord mv_X12_isWord ml_X12_139 dX12_isOwn_85 kM_0 rfl ⟨Nat.le_of_ble_eq_true rfl, Nat.le_of_ble_eq_true rfl⟩ (Nat.le_of_ble_eq_true rfl) rfl ?_
        refine st_if_ne (t := 118) h dX12_isOwn_88 (by decide) (fun q4 => ?_) (fun q4 => ?_)
        · have hF := qI q4 hF
          exact st_sub (ls_n (ls_n ls_e)) (w_X12_isOwn_118 h hr σ  z hF)
        · have hF := pI q4 hF
          refine st_aload_0 h dX12_isOwn_91 ?_
          refine st_ldcS (tx := "x") (i := 9) h (by decide +kernel) dX12_isOwn_92 ?_
          obtain ⟨x4, hx4, hF⟩ := bI hF
          refine st_cVi (vs := [.retAddr 9]) (st := []) h (w_X12_isWord hx4) mi_X12_isWord mv_X12_isWord ml_X12_139 dX12_isOwn_94 kM_0 rfl ⟨Nat.le_of_ble_eq_true rfl, Nat.le_of_ble_eq_true rfl⟩ (Nat.le_of_ble_eq_true rfl) rfl ?_
          refine st_if_ne (t := 118) h dX12_isOwn_97 (by decide) (fun q5 => ?_) (fun q5 => ?_)
          · have hF := qI q5 hF
            exact st_sub (ls_n (ls_n ls_e)) (w_X12_isOwn_118 h hr σ  z hF)
          · have hF := pI q5 hF
            refine st_aload_0 h dX12_isOwn_100 ?_
            refine st_ldcS (tx := "carry") (i := 10) h (by decide +kernel) dX12_isOwn_101 ?_
            obtain ⟨x5, hx5, hF⟩ := bI hF
            refine st_cVi (vs := [.retAddr 10]) (st := []) h (w_X12_isWord hx5) mi_X12_isWord mv_X12_isWord ml_X12_139 dX12_isOwn_103 kM_0 rfl ⟨Nat.le_of_ble_eq_true rfl, Nat.le_of_ble_eq_true rfl⟩ (Nat.le_of_ble_eq_true rfl) rfl ?_
            refine st_if_ne (t := 118) h dX12_isOwn_106 (by decide) (fun q6 => ?_) (fun q6 => ?_)
            · have hF := qI q6 hF
              exact st_sub (ls_n (ls_n ls_e)) (w_X12_isOwn_118 h hr σ  z hF)
            · have hF := pI q6 hF
              refine st_aload_0 h dX12_isOwn_109 ?_
              refine st_ldcS (tx := "due") (i := 11) h (by decide +kernel) dX12_isOwn_110 ?_
              obtain ⟨x6, hx6, hF⟩ := bI hF
              refine st_cVi (vs := [.retAddr 11]) (st := []) h (w_X12_isWord hx6) mi_X12_isWord mv_X12_isWord ml_X12_139 dX12_isOwn_112 kM_0 rfl ⟨Nat.le_of_ble_eq_true rfl, Nat.le_of_ble_eq_true rfl⟩ (Nat.le_of_ble_eq_true rfl) rfl ?_
              refine st_if_eq (t := 122) h dX12_isOwn_115 (by decide) (fun q7 => ?_) (fun q7 => ?_)
              · have hF := pI q7 hF
                refine st_ic_0 h dX12_isOwn_122 ?_
                cases hF
                exact st_zret h hr (Or.inl rfl) dX12_isOwn_123
              · have hF := qI q7 hF
                exact st_sub (ls_n (ls_n ls_e)) (w_X12_isOwn_118 h hr σ  z hF)
set_option maxRecDepth 100000 in
set_option maxHeartbeats 4000000 in
theorem w_X12_isOwn_54 {p : Program} {l : Launch} {e : Env} {s : State} {m : MethodId} {args : Array Value} {below : List Frame} {meth : Method} {c : Code} {G : Gv} (h : Cx p s m args meth c G cX12_isOwn 2 RX12) (hr : meth.sig.returnType = (some .boolean)) : ∀ (σ : Sto) (z : Int32), F_X12_isOwn_54 σ  = some z → AW p l e (rmD 8 0 0) s m args below meth c (MQ below (QcR G shM νM (some (.int z)) (ovM σ)) args s 0 0 (gA G)) 0 0 G 2 54 [some (.ref 0), none] [] shM νM (ovM σ) := by
  intro σ z hF
  rw [F_X12_isOwn_54] at hF
  refine st_ic_1 h dX12_isOwn_54 ?_
  refine st_goto (t := 59) h dX12_isOwn_55 (by decide) ?_
  exact st_sub (ls_s (ls_n ls_e)) (w_X12_isOwn_59 h hr σ 1 z hF)
set_option maxRecDepth 100000 in
set_option maxHeartbeats 4000000 in
theorem w_X12_isOwn {l : Launch} {G : Gv} {σ : Sto} {z : Int32} (hF : F_X12_isOwn σ  = some z) : Con l yX12_isOwn cX12_isOwn 2 (some .boolean) 8 G shM νM [.ref 0] (ovM σ) (some (.int z)) (ovM σ) := by
  rw [F_X12_isOwn] at hF
  refine Con_enter (own := RX12) 1 (lv := [some (.ref 0), none]) mi_X12_isOwn.2.2.2 rfl (Nat.le_of_ble_eq_true rfl) rfl (fun h hr hin => ?_)
  refine st_aload_0 h dX12_isOwn_0 ?_
  refine st_ldcS (tx := "service") (i := 0) h (by decide +kernel) dX12_isOwn_1 ?_
  obtain ⟨x1, hx1, hF⟩ := bI hF
  refine st_cVi (vs := [.retAddr 0]) (st := []) h (w_X12_isWord hx1) mi_X12_isWord mv_X12_isWord ml_X12_139 dX12_isOwn_3 kM_0 rfl ⟨Nat.le_of_ble_eq_true rfl, Nat.le_of_ble_eq_true rfl⟩ (Nat.le_of_ble_eq_true rfl) rfl ?_
  refine st_if_ne (t := 54) h dX12_isOwn_6 (by decide) (fun q1 => ?_) (fun q1 => ?_)
  · have hF := qI q1 hF
    exact st_sub (ls_s (ls_n ls_e)) (w_X12_isOwn_54 h hr σ  z hF)
  · have hF := pI q1 hF
    refine st_aload_0 h dX12_isOwn_9 ?_
    refine st_ldcS (tx := "price") (i := 1) h (by decide +kernel) dX12_isOwn_10 ?_
    obtain ⟨x2, hx2, hF⟩ := bI hF
    refine st_cVi (vs := [.retAddr 1]) (st := []) h (w_X12_isWord hx2) mi_X12_isWord mv_X12_isWord ml_X12_139 dX12_isOwn_12 kM_0 rfl ⟨Nat.le_of_ble_eq_true rfl, Nat.le_of_ble_eq_true rfl⟩ (Nat.le_of_ble_eq_true rfl) rfl ?_
    refine st_if_ne (t := 54) h dX12_isOwn_15 (by decide) (fun q2 => ?_) (fun q2 => ?_)
    · have hF := qI q2 hF
      exact st_sub (ls_s (ls_n ls_e)) (w_X12_isOwn_54 h hr σ  z hF)
    · have hF := pI q2 hF
      refine st_aload_0 h dX12_isOwn_18 ?_
      refine st_ldcS (tx := "size") (i := 2) h (by decide +kernel) dX12_isOwn_19 ?_
      obtain ⟨x3, hx3, hF⟩ := bI hF
      refine st_cVi (vs := [.retAddr 2]) (st := []) h (w_X12_isWord hx3) mi_X12_isWord mv_X12_isWord ml_X12_139 dX12_isOwn_21 kM_0 rfl ⟨Nat.le_of_ble_eq_true rfl, Nat.le_of_ble_eq_true rfl⟩ (Nat.le_of_ble_eq_true rfl) rfl ?_
      refine st_if_ne (t := 54) h dX12_isOwn_24 (by decide) (fun q3 => ?_) (fun q3 => ?_)
      · have hF := qI q3 hF
        exact st_sub (ls_s (ls_n ls_e)) (w_X12_isOwn_54 h hr σ  z hF)
      · have hF := pI q3 hF
        refine st_aload_0 h dX12_isOwn_27 ?_
        refine st_ldcS (tx := "slope") (i := 3) h (by decide +kernel) dX12_isOwn_28 ?_
        obtain ⟨x4, hx4, hF⟩ := bI hF
        refine st_cVi (vs := [.retAddr 3]) (st := []) h (w_X12_isWord hx4) mi_X12_isWord mv_X12_isWord ml_X12_139 dX12_isOwn_30 kM_0 rfl ⟨Nat.le_of_ble_eq_true rfl, Nat.le_of_ble_eq_true rfl⟩ (Nat.le_of_ble_eq_true rfl) rfl ?_
        refine st_if_ne (t := 54) h dX12_isOwn_33 (by decide) (fun q4 => ?_) (fun q4 => ?_)
        · have hF := qI q4 hF
          exact st_sub (ls_s (ls_n ls_e)) (w_X12_isOwn_54 h hr σ  z hF)
        · have hF := pI q4 hF
          refine st_aload_0 h dX12_isOwn_36 ?_
          refine st_ldcS (tx := "cost") (i := 4) h (by decide +kernel) dX12_isOwn_37 ?_
          obtain ⟨x5, hx5, hF⟩ := bI hF
          refine st_cVi (vs := [.retAddr 4]) (st := []) h (w_X12_isWord hx5) mi_X12_isWord mv_X12_isWord ml_X12_139 dX12_isOwn_39 kM_0 rfl ⟨Nat.le_of_ble_eq_true rfl, Nat.le_of_ble_eq_true rfl⟩ (Nat.le_of_ble_eq_true rfl) rfl ?_
          refine st_if_ne (t := 54) h dX12_isOwn_42 (by decide) (fun q5 => ?_) (fun q5 => ?_)
          · have hF := qI q5 hF
            exact st_sub (ls_s (ls_n ls_e)) (w_X12_isOwn_54 h hr σ  z hF)
          · have hF := pI q5 hF
            refine st_aload_0 h dX12_isOwn_45 ?_
            refine st_ldcS (tx := "quality") (i := 5) h (by decide +kernel) dX12_isOwn_46 ?_
            obtain ⟨x6, hx6, hF⟩ := bI hF
            refine st_cVi (vs := [.retAddr 5]) (st := []) h (w_X12_isWord hx6) mi_X12_isWord mv_X12_isWord ml_X12_139 dX12_isOwn_48 kM_0 rfl ⟨Nat.le_of_ble_eq_true rfl, Nat.le_of_ble_eq_true rfl⟩ (Nat.le_of_ble_eq_true rfl) rfl ?_
            refine st_if_eq (t := 58) h dX12_isOwn_51 (by decide) (fun q6 => ?_) (fun q6 => ?_)
            · have hF := pI q6 hF
              refine st_ic_0 h dX12_isOwn_58 ?_
              exact st_sub (ls_s (ls_n ls_e)) (w_X12_isOwn_59 h hr σ 0 z hF)
            · have hF := qI q6 hF
              exact st_sub (ls_s (ls_n ls_e)) (w_X12_isOwn_54 h hr σ  z hF)
set_option maxRecDepth 100000 in
set_option maxHeartbeats 4000000 in
theorem w_X12_readWhole_33 {p : Program} {l : Launch} {e : Env} {s : State} {m : MethodId} {args : Array Value} {below : List Frame} {meth : Method} {c : Code} {G : Gv} (h : Cx p s m args meth c G cX12_readWhole 4 RX12) (hr : meth.sig.returnType = (some .int)) : ∀ (σ : Sto) (z : (Int32 × Sto)), F_X12_readWhole_33 σ  = some z → AW p l e (rmD 4 0 0) s m args below meth c (MQ below (QcR G shM νM (some (.int z.1)) (ovM z.2)) args s 0 0 (gA G)) 0 0 G 4 33 [some (.ref 0), none, none, none] [] shM νM (ovM σ) := by
  intro σ z hF
  rw [F_X12_readWhole_33] at hF
  refine st_aload_0 h dX12_readWhole_33 ?_
  refine gX12_12 h fl_X12_119 dX12_readWhole_34 (congrArg Prod.fst kM_0) ?_
  refine st_istore_3 h dX12_readWhole_37 ?_
  refine st_aload_0 h dX12_readWhole_38 ?_
  obtain ⟨x1, hx1, hF⟩ := bI hF
  refine st_cVv (vs := []) (st := []) h (w_X12_goOn hx1) mi_X12_goOn mv_X12_goOn ml_X12_147 dX12_readWhole_39 kM_0 rfl ⟨Nat.le_of_ble_eq_true rfl, Nat.le_of_ble_eq_true rfl⟩ (Nat.le_of_ble_eq_true rfl) rfl ?_
  refine st_iload_3 h dX12_readWhole_42 ?_
  cases hF
  exact st_iret h hr dX12_readWhole_43
set_option maxRecDepth 100000 in
set_option maxHeartbeats 4000000 in
theorem w_X12_readWhole {l : Launch} {G : Gv} {σ : Sto} {i1 : Int32} {i2 : Int32} {z : (Int32 × Sto)} (hF : F_X12_readWhole σ i1 i2 = some z) : Con l yX12_readWhole cX12_readWhole 4 (some .int) 4 G shM νM [.ref 0, .int i1, .int i2] (ovM σ) (some (.int z.1)) (ovM z.2) := by
  rw [F_X12_readWhole] at hF
  refine Con_enter (own := RX12) 1 (lv := [some (.ref 0), some (.int i1), some (.int i2), none]) mi_X12_readWhole.2.2.2 rfl (Nat.le_of_ble_eq_true rfl) rfl (fun h hr hin => ?_)
  refine st_aload_0 h dX12_readWhole_0 ?_
  refine gX12_9 h fl_X12_101 dX12_readWhole_1 (congrArg Prod.fst kM_0) ?_
  refine st_ic_3 h dX12_readWhole_4 ?_
  refine st_icmp_eq (t := 16) h dX12_readWhole_5 (by decide) (fun q1 => ?_) (fun q1 => ?_)
  · have hF := pI q1 hF
    refine st_aload_0 h dX12_readWhole_16 ?_
    refine gX12_12 h fl_X12_119 dX12_readWhole_17 (congrArg Prod.fst kM_0) ?_
    refine st_iload_1 h dX12_readWhole_20 ?_
    refine st_iload_2 h dX12_readWhole_21 ?_
    obtain ⟨x1, hx1, hF⟩ := bI hF
    refine st_cSi (vs := [.int (σ.1 0 12), .int i1, .int i2]) (st := []) h (w_X12_in hx1) mi_X12_in ms_X12_in ml_X12_94 dX12_readWhole_22 rfl ⟨Nat.le_of_ble_eq_true rfl, Nat.le_of_ble_eq_true rfl⟩ (Nat.le_of_ble_eq_true rfl) rfl ?_
    refine st_if_ne (t := 33) h dX12_readWhole_25 (by decide) (fun q2 => ?_) (fun q2 => ?_)
    · have hF := qI q2 hF
      exact st_sub (ls_s (ls_n (ls_n (ls_n ls_e)))) (w_X12_readWhole_33 h hr σ  z hF)
    · have hF := pI q2 hF
      refine st_aload_0 h dX12_readWhole_28 ?_
      refine st_ic_2 h dX12_readWhole_29 ?_
      obtain ⟨x2, hx2, hF⟩ := bI hF
      refine st_cVv (vs := [.int 2]) (st := []) h (w_X12_flaw hx2) mi_X12_flaw mv_X12_flaw ml_X12_143 dX12_readWhole_30 kM_0 rfl ⟨Nat.le_of_ble_eq_true rfl, Nat.le_of_ble_eq_true rfl⟩ (Nat.le_of_ble_eq_true rfl) rfl ?_
      exact st_sub (ls_s (ls_n (ls_n (ls_n ls_e)))) (w_X12_readWhole_33 h hr x2  z hF)
  · have hF := qI q1 hF
    refine st_aload_0 h dX12_readWhole_8 ?_
    refine st_ic_1 h dX12_readWhole_9 ?_
    obtain ⟨x3, hx3, hF⟩ := bI hF
    refine st_cVv (vs := [.int 1]) (st := []) h (w_X12_flaw hx3) mi_X12_flaw mv_X12_flaw ml_X12_143 dX12_readWhole_10 kM_0 rfl ⟨Nat.le_of_ble_eq_true rfl, Nat.le_of_ble_eq_true rfl⟩ (Nat.le_of_ble_eq_true rfl) rfl ?_
    refine st_goto (t := 33) h dX12_readWhole_13 (by decide) ?_
    exact st_sub (ls_s (ls_n (ls_n (ls_n ls_e)))) (w_X12_readWhole_33 h hr x3  z hF)
set_option maxRecDepth 100000 in
set_option maxHeartbeats 4000000 in
theorem w_X12_readTold {l : Launch} {G : Gv} {σ : Sto} {t1 : Nat} {i2 : Int32} {i3 : Int32} {z : (Int32 × Sto)} (hF : F_X12_readTold σ t1 i2 i3 = some z) : Con l yX12_readTold cX12_readTold 4 (some .int) 9 G shM νM [.ref 0, .retAddr t1, .int i2, .int i3] (ovM σ) (some (.int z.1)) (ovM z.2) := by
  rw [F_X12_readTold] at hF
  refine Con_enter (own := RX12) 0 (lv := [some (.ref 0), some (.retAddr t1), some (.int i2), some (.int i3)]) mi_X12_readTold.2.2.2 rfl (Nat.le_of_ble_eq_true rfl) rfl (fun h hr hin => ?_)
  refine st_aload_0 h dX12_readTold_0 ?_
  refine st_tload_1 h dX12_readTold_1 ?_
  obtain ⟨x1, hx1, hF⟩ := bI hF
  refine st_cVv (vs := [.retAddr t1]) (st := []) h (w_X12_needs hx1) mi_X12_needs mv_X12_needs ml_X12_173 dX12_readTold_2 kM_0 rfl ⟨Nat.le_of_ble_eq_true rfl, Nat.le_of_ble_eq_true rfl⟩ (Nat.le_of_ble_eq_true rfl) rfl ?_
  refine st_aload_0 h dX12_readTold_5 ?_
  refine st_iload_2 h dX12_readTold_6 ?_
  refine st_iload_3 h dX12_readTold_7 ?_
  obtain ⟨x2, hx2, hF⟩ := bI hF
  refine st_cVi (vs := [.int i2, .int i3]) (st := []) h (w_X12_readWhole hx2) mi_X12_readWhole mv_X12_readWhole ml_X12_177 dX12_readTold_8 kM_0 rfl ⟨Nat.le_of_ble_eq_true rfl, Nat.le_of_ble_eq_true rfl⟩ (Nat.le_of_ble_eq_true rfl) rfl ?_
  cases hF
  exact st_iret h hr dX12_readTold_11
set_option maxRecDepth 100000 in
set_option maxHeartbeats 4000000 in
theorem w_X12_fault {l : Launch} {G : Gv} {σ : Sto} {z : (Int32 × Sto)} (hF : F_X12_fault σ  = some z) : Con l yX12_fault cX12_fault 1 (some .int) 1 G shM νM [.ref 0] (ovM σ) (some (.int z.1)) (ovM z.2) := by
  rw [F_X12_fault] at hF
  refine Con_enter (own := RX12) 0 (lv := [some (.ref 0)]) mi_X12_fault.2.2.2 rfl (Nat.le_of_ble_eq_true rfl) rfl (fun h hr hin => ?_)
  refine st_aload_0 h dX12_fault_0 ?_
  refine st_ic_0 h dX12_fault_1 ?_
  obtain ⟨s1, hs1, hF⟩ := swI hF
  refine pX12_0 h fl_X12_73 dX12_fault_2 (congrArg Prod.fst kM_0) hs1 ?_
  refine st_aload_0 h dX12_fault_5 ?_
  refine gX12_7 h fl_X12_82 dX12_fault_6 (congrArg Prod.fst kM_0) ?_
  cases hF
  exact st_iret h hr dX12_fault_9
set_option maxRecDepth 100000 in
set_option maxHeartbeats 4000000 in
theorem w_X12_where {l : Launch} {G : Gv} {σ : Sto} {z : (Int32 × Sto)} (hF : F_X12_where σ  = some z) : Con l yX12_where cX12_where 1 (some .int) 1 G shM νM [.ref 0] (ovM σ) (some (.int z.1)) (ovM z.2) := by
  rw [F_X12_where] at hF
  refine Con_enter (own := RX12) 0 (lv := [some (.ref 0)]) mi_X12_where.2.2.2 rfl (Nat.le_of_ble_eq_true rfl) rfl (fun h hr hin => ?_)
  refine st_aload_0 h dX12_where_0 ?_
  refine st_ic_0 h dX12_where_1 ?_
  obtain ⟨s1, hs1, hF⟩ := swI hF
  refine pX12_0 h fl_X12_73 dX12_where_2 (congrArg Prod.fst kM_0) hs1 ?_
  refine st_aload_0 h dX12_where_5 ?_
  refine gX12_2 h fl_X12_9 dX12_where_6 (congrArg Prod.fst kM_0) ?_
  cases hF
  exact st_iret h hr dX12_where_9
set_option maxRecDepth 100000 in
set_option maxHeartbeats 4000000 in
theorem w_X12_of {l : Launch} {G : Gv} {σ : Sto} {i1 : Int32} {i2 : Int32} {z : Int32} (hF : F_X12_of σ i1 i2 = some z) : Con l yX12_of cX12_of 3 (some .int) 1 G shM νM [.ref 0, .int i1, .int i2] (ovM σ) (some (.int z)) (ovM σ) := by
  rw [F_X12_of] at hF
  refine Con_enter (own := RX12) 0 (lv := [some (.ref 0), some (.int i1), some (.int i2)]) mi_X12_of.2.2.2 rfl (Nat.le_of_ble_eq_true rfl) rfl (fun h hr hin => ?_)
  refine st_aload_0 h dX12_of_0 ?_
  refine gX12_14 h fl_X12_17 dX12_of_1 (congrArg Prod.fst kM_0) ?_
  refine st_bipush (v := 7) h dX12_of_4 (by decide) ?_
  refine st_iload_1 h dX12_of_6 ?_
  refine st_imul h dX12_of_7 ?_
  refine st_iload_2 h dX12_of_8 ?_
  refine st_iadd h dX12_of_9 ?_
  obtain ⟨g1, hF⟩ := gI hF
  refine iaM h dX12_of_10 kM_2 g1 ?_
  cases hF
  exact st_iret h hr dX12_of_11
set_option maxRecDepth 100000 in
set_option maxHeartbeats 4000000 in
theorem w_X12_readName_130 {p : Program} {l : Launch} {e : Env} {s : State} {m : MethodId} {args : Array Value} {below : List Frame} {meth : Method} {c : Code} {G : Gv} (h : Cx p s m args meth c G cX12_readName 3 RX12) (hr : meth.sig.returnType = none) : ∀ (σ : Sto) (z : Sto), F_X12_readName_130 σ  = some z → AW p l e (rmD 9 0 0) s m args below meth c (MQ below (QcR G shM νM none (ovM z)) args s 0 0 (gA G)) 0 0 G 3 130 [some (.ref 0), none, none] [] shM νM (ovM σ) := by
  intro σ z hF
  rw [F_X12_readName_130] at hF
  refine st_aload_0 h dX12_readName_130 ?_
  obtain ⟨x1, hx1, hF⟩ := bI hF
  refine st_cVv (vs := []) (st := []) h (w_X12_goOn hx1) mi_X12_goOn mv_X12_goOn ml_X12_147 dX12_readName_131 kM_0 rfl ⟨Nat.le_of_ble_eq_true rfl, Nat.le_of_ble_eq_true rfl⟩ (Nat.le_of_ble_eq_true rfl) rfl ?_
  cases hF
  exact st_vret h hr dX12_readName_134
set_option maxRecDepth 100000 in
set_option maxHeartbeats 4000000 in
theorem w_X12_readName_113 {p : Program} {l : Launch} {e : Env} {s : State} {m : MethodId} {args : Array Value} {below : List Frame} {meth : Method} {c : Code} {G : Gv} (h : Cx p s m args meth c G cX12_readName 3 RX12) (hr : meth.sig.returnType = none) : ∀ (σ : Sto) (i1 : Int32) (z : Sto), F_X12_readName_113 σ i1 = some z → AW p l e (rmD 9 0 0) s m args below meth c (MQ below (QcR G shM νM none (ovM z)) args s 0 0 (gA G)) 0 0 G 3 113 [some (.ref 0), some (.int i1), none] [] shM νM (ovM σ) := by
  intro σ i1 z hF
  rw [F_X12_readName_113] at hF
  refine st_aload_0 h dX12_readName_113 ?_
  refine gX12_7 h fl_X12_82 dX12_readName_114 (congrArg Prod.fst kM_0) ?_
  refine st_if_ne (t := 130) h dX12_readName_117 (by decide) (fun q1 => ?_) (fun q1 => ?_)
  · have hF := qI q1 hF
    exact st_sub (ls_s (ls_n (ls_n ls_e))) (w_X12_readName_130 h hr σ  z hF)
  · have hF := pI q1 hF
    refine st_aload_0 h dX12_readName_120 ?_
    refine gX12_20 h fl_X12_36 dX12_readName_121 (congrArg Prod.fst kM_0) ?_
    refine st_iload_1 h dX12_readName_124 ?_
    refine st_aload_0 h dX12_readName_125 ?_
    refine gX12_13 h fl_X12_108 dX12_readName_126 (congrArg Prod.fst kM_0) ?_
    obtain ⟨g1, hF⟩ := gI hF
    obtain ⟨s1, hs1, hF⟩ := swI hF
    refine lsM h dX12_readName_129 kM_8 g1 hs1 ?_
    exact st_sub (ls_s (ls_n (ls_n ls_e))) (w_X12_readName_130 h hr s1  z hF)
set_option maxRecDepth 100000 in
set_option maxHeartbeats 4000000 in
theorem w_X12_readName_71 {p : Program} {l : Launch} {e : Env} {s : State} {m : MethodId} {args : Array Value} {below : List Frame} {meth : Method} {c : Code} {G : Gv} (h : Cx p s m args meth c G cX12_readName 3 RX12) (hr : meth.sig.returnType = none) : ∀ (n : Nat) (σ : Sto) (i1 : Int32) (i2 : Int32) (z : Sto), F_X12_readName_71 n σ i1 i2 = some z → AW p l e (rmD 9 0 0) s m args below meth c (MQ below (QcR G shM νM none (ovM z)) args s 0 0 (gA G)) 0 0 G 3 71 [some (.ref 0), some (.int i1), some (.int i2)] [] shM νM (ovM σ) := by
  intro n
  induction n with
  | zero => intro σ i1 i2 z hF; cases hF
  | succ n ih =>
    intro σ i1 i2 z hF
    rw [F_X12_readName_71] at hF
    refine st_aload_0 h dX12_readName_71 ?_
    refine gX12_7 h fl_X12_82 dX12_readName_72 (congrArg Prod.fst kM_0) ?_
    refine st_if_ne (t := 113) h dX12_readName_75 (by decide) (fun q1 => ?_) (fun q1 => ?_)
    · have hF := qI q1 hF
      exact st_sub (ls_s (ls_s (ls_n ls_e))) (w_X12_readName_113 h hr σ i1 z hF)
    · have hF := pI q1 hF
      refine st_iload_2 h dX12_readName_78 ?_
      refine st_aload_0 h dX12_readName_79 ?_
      refine gX12_29 h fl_X12_188 dX12_readName_80 (congrArg Prod.fst kM_0) ?_
      refine st_icmp_ge (t := 113) h dX12_readName_83 (by decide) (fun q2 => ?_) (fun q2 => ?_)
      · have hF := pI q2 hF
        exact st_sub (ls_s (ls_s (ls_n ls_e))) (w_X12_readName_113 h hr σ i1 z hF)
      · have hF := qI q2 hF
        refine st_aload_0 h dX12_readName_86 ?_
        refine gX12_20 h fl_X12_36 dX12_readName_87 (congrArg Prod.fst kM_0) ?_
        refine st_ic_4 h dX12_readName_90 ?_
        refine st_iload_2 h dX12_readName_91 ?_
        refine st_iadd h dX12_readName_92 ?_
        obtain ⟨g1, hF⟩ := gI hF
        refine laM h dX12_readName_93 kM_8 g1 ?_
        refine st_aload_0 h dX12_readName_94 ?_
        refine gX12_13 h fl_X12_108 dX12_readName_95 (congrArg Prod.fst kM_0) ?_
        refine st_lcmp h dX12_readName_98 ?_
        refine st_if_ne (t := 107) h dX12_readName_99 (by decide) (fun q3 => ?_) (fun q3 => ?_)
        · have hF := qI q3 hF
          refine st_iinc_2 (y := i2 + 1) h dX12_readName_107 (ii_1 _) ?_
          refine st_goto (t := 71) h dX12_readName_110 (by decide) ?_
          exact st_sub (ls_s (ls_s (ls_s ls_e))) (ih σ i1 (i2 + 1) z hF)
        · have hF := pI q3 hF
          refine st_aload_0 h dX12_readName_102 ?_
          refine st_ic_3 h dX12_readName_103 ?_
          obtain ⟨x1, hx1, hF⟩ := bI hF
          refine st_cVv (vs := [.int 3]) (st := []) h (w_X12_flaw hx1) mi_X12_flaw mv_X12_flaw ml_X12_143 dX12_readName_104 kM_0 rfl ⟨Nat.le_of_ble_eq_true rfl, Nat.le_of_ble_eq_true rfl⟩ (Nat.le_of_ble_eq_true rfl) rfl ?_
          refine st_iinc_2 (y := i2 + 1) h dX12_readName_107 (ii_1 _) ?_
          refine st_goto (t := 71) h dX12_readName_110 (by decide) ?_
          exact st_sub (ls_s (ls_s (ls_s ls_e))) (ih x1 i1 (i2 + 1) z hF)
set_option maxRecDepth 100000 in
set_option maxHeartbeats 4000000 in
theorem w_X12_readName_29 {p : Program} {l : Launch} {e : Env} {s : State} {m : MethodId} {args : Array Value} {below : List Frame} {meth : Method} {c : Code} {G : Gv} (h : Cx p s m args meth c G cX12_readName 3 RX12) (hr : meth.sig.returnType = none) : ∀ (n : Nat) (σ : Sto) (i1 : Int32) (i2 : Int32) (z : Sto), F_X12_readName_29 n σ i1 i2 = some z → AW p l e (rmD 9 0 0) s m args below meth c (MQ below (QcR G shM νM none (ovM z)) args s 0 0 (gA G)) 0 0 G 3 29 [some (.ref 0), some (.int i1), some (.int i2)] [] shM νM (ovM σ) := by
  intro n
  induction n with
  | zero => intro σ i1 i2 z hF; cases hF
  | succ n ih =>
    intro σ i1 i2 z hF
    rw [F_X12_readName_29] at hF
    refine st_aload_0 h dX12_readName_29 ?_
    refine gX12_7 h fl_X12_82 dX12_readName_30 (congrArg Prod.fst kM_0) ?_
    refine st_if_ne (t := 69) h dX12_readName_33 (by decide) (fun q1 => ?_) (fun q1 => ?_)
    · have hF := qI q1 hF
      refine st_ic_0 h dX12_readName_69 ?_
      refine st_istore_2 h dX12_readName_70 ?_
      exact st_sub (ls_s (ls_s (ls_s ls_e))) (w_X12_readName_71 h hr FU σ i1 0 z hF)
    · have hF := pI q1 hF
      refine st_iload_2 h dX12_readName_36 ?_
      refine st_aload_0 h dX12_readName_37 ?_
      refine gX12_23 h fl_X12_185 dX12_readName_38 (congrArg Prod.fst kM_0) ?_
      refine st_icmp_ge (t := 69) h dX12_readName_41 (by decide) (fun q2 => ?_) (fun q2 => ?_)
      · have hF := pI q2 hF
        refine st_ic_0 h dX12_readName_69 ?_
        refine st_istore_2 h dX12_readName_70 ?_
        exact st_sub (ls_s (ls_s (ls_s ls_e))) (w_X12_readName_71 h hr FU σ i1 0 z hF)
      · have hF := qI q2 hF
        refine st_aload_0 h dX12_readName_44 ?_
        refine gX12_20 h fl_X12_36 dX12_readName_45 (congrArg Prod.fst kM_0) ?_
        refine st_iload_2 h dX12_readName_48 ?_
        obtain ⟨g1, hF⟩ := gI hF
        refine laM h dX12_readName_49 kM_8 g1 ?_
        refine st_aload_0 h dX12_readName_50 ?_
        refine gX12_13 h fl_X12_108 dX12_readName_51 (congrArg Prod.fst kM_0) ?_
        refine st_lcmp h dX12_readName_54 ?_
        refine st_if_ne (t := 63) h dX12_readName_55 (by decide) (fun q3 => ?_) (fun q3 => ?_)
        · have hF := qI q3 hF
          refine st_iinc_2 (y := i2 + 1) h dX12_readName_63 (ii_1 _) ?_
          refine st_goto (t := 29) h dX12_readName_66 (by decide) ?_
          exact st_sub (ls_s (ls_s (ls_s ls_e))) (ih σ i1 (i2 + 1) z hF)
        · have hF := pI q3 hF
          refine st_aload_0 h dX12_readName_58 ?_
          refine st_ic_3 h dX12_readName_59 ?_
          obtain ⟨x1, hx1, hF⟩ := bI hF
          refine st_cVv (vs := [.int 3]) (st := []) h (w_X12_flaw hx1) mi_X12_flaw mv_X12_flaw ml_X12_143 dX12_readName_60 kM_0 rfl ⟨Nat.le_of_ble_eq_true rfl, Nat.le_of_ble_eq_true rfl⟩ (Nat.le_of_ble_eq_true rfl) rfl ?_
          refine st_iinc_2 (y := i2 + 1) h dX12_readName_63 (ii_1 _) ?_
          refine st_goto (t := 29) h dX12_readName_66 (by decide) ?_
          exact st_sub (ls_s (ls_s (ls_s ls_e))) (ih x1 i1 (i2 + 1) z hF)
set_option maxRecDepth 100000 in
set_option maxHeartbeats 4000000 in
theorem w_X12_readName_22 {p : Program} {l : Launch} {e : Env} {s : State} {m : MethodId} {args : Array Value} {below : List Frame} {meth : Method} {c : Code} {G : Gv} (h : Cx p s m args meth c G cX12_readName 3 RX12) (hr : meth.sig.returnType = none) : ∀ (σ : Sto) (i1 : Int32) (z : Sto), F_X12_readName_22 σ i1 = some z → AW p l e (rmD 9 0 0) s m args below meth c (MQ below (QcR G shM νM none (ovM z)) args s 0 0 (gA G)) 0 0 G 3 22 [some (.ref 0), some (.int i1), none] [] shM νM (ovM σ) := by
  intro σ i1 z hF
  rw [F_X12_readName_22] at hF
  refine st_aload_0 h dX12_readName_22 ?_
  refine st_ic_1 h dX12_readName_23 ?_
  obtain ⟨x1, hx1, hF⟩ := bI hF
  refine st_cVv (vs := [.int 1]) (st := []) h (w_X12_flaw hx1) mi_X12_flaw mv_X12_flaw ml_X12_143 dX12_readName_24 kM_0 rfl ⟨Nat.le_of_ble_eq_true rfl, Nat.le_of_ble_eq_true rfl⟩ (Nat.le_of_ble_eq_true rfl) rfl ?_
  refine st_ic_0 h dX12_readName_27 ?_
  refine st_istore_2 h dX12_readName_28 ?_
  exact st_sub (ls_s (ls_s (ls_s ls_e))) (w_X12_readName_29 h hr FU x1 i1 0 z hF)
set_option maxRecDepth 100000 in
set_option maxHeartbeats 4000000 in
theorem w_X12_readName {l : Launch} {G : Gv} {σ : Sto} {i1 : Int32} {z : Sto} (hF : F_X12_readName σ i1 = some z) : Con l yX12_readName cX12_readName 3 none 9 G shM νM [.ref 0, .int i1] (ovM σ) none (ovM z) := by
  rw [F_X12_readName] at hF
  refine Con_enter (own := RX12) 1 (lv := [some (.ref 0), some (.int i1), none]) mi_X12_readName.2.2.2 rfl (Nat.le_of_ble_eq_true rfl) rfl (fun h hr hin => ?_)
  refine st_aload_0 h dX12_readName_0 ?_
  refine gX12_7 h fl_X12_82 dX12_readName_1 (congrArg Prod.fst kM_0) ?_
  refine st_if_ne (t := 27) h dX12_readName_4 (by decide) (fun q1 => ?_) (fun q1 => ?_)
  · have hF := qI q1 hF
    refine st_ic_0 h dX12_readName_27 ?_
    refine st_istore_2 h dX12_readName_28 ?_
    exact st_sub (ls_s (ls_s (ls_s ls_e))) (w_X12_readName_29 h hr FU σ i1 0 z hF)
  · have hF := pI q1 hF
    refine st_aload_0 h dX12_readName_7 ?_
    refine gX12_9 h fl_X12_101 dX12_readName_8 (congrArg Prod.fst kM_0) ?_
    refine st_ic_2 h dX12_readName_11 ?_
    refine st_icmp_ne (t := 22) h dX12_readName_12 (by decide) (fun q2 => ?_) (fun q2 => ?_)
    · have hF := qI q2 hF
      exact st_sub (ls_s (ls_s (ls_n ls_e))) (w_X12_readName_22 h hr σ i1 z hF)
    · have hF := pI q2 hF
      refine st_aload_0 h dX12_readName_15 ?_
      obtain ⟨x1, hx1, hF⟩ := bI hF
      refine st_cVi (vs := []) (st := []) h (w_X12_isOwn hx1) mi_X12_isOwn mv_X12_isOwn ml_X12_181 dX12_readName_16 kM_0 rfl ⟨Nat.le_of_ble_eq_true rfl, Nat.le_of_ble_eq_true rfl⟩ (Nat.le_of_ble_eq_true rfl) rfl ?_
      refine st_if_eq (t := 27) h dX12_readName_19 (by decide) (fun q3 => ?_) (fun q3 => ?_)
      · have hF := pI q3 hF
        refine st_ic_0 h dX12_readName_27 ?_
        refine st_istore_2 h dX12_readName_28 ?_
        exact st_sub (ls_s (ls_s (ls_s ls_e))) (w_X12_readName_29 h hr FU σ i1 0 z hF)
      · have hF := qI q3 hF
        exact st_sub (ls_s (ls_s (ls_n ls_e))) (w_X12_readName_22 h hr σ i1 z hF)
set_option maxRecDepth 100000 in
set_option maxHeartbeats 4000000 in
theorem w_X12_readBuyer_99 {p : Program} {l : Launch} {e : Env} {s : State} {m : MethodId} {args : Array Value} {below : List Frame} {meth : Method} {c : Code} {G : Gv} (h : Cx p s m args meth c G cX12_readBuyer 2 RX12) (hr : meth.sig.returnType = none) : ∀ (σ : Sto) (z : Sto), F_X12_readBuyer_99 σ  = some z → AW p l e (rmD 10 0 0) s m args below meth c (MQ below (QcR G shM νM none (ovM z)) args s 0 0 (gA G)) 0 0 G 2 99 [some (.ref 0), none] [] shM νM (ovM σ) := by
  intro σ z hF
  rw [F_X12_readBuyer_99] at hF
  refine st_aload_0 h dX12_readBuyer_99 ?_
  refine gX12_7 h fl_X12_82 dX12_readBuyer_100 (congrArg Prod.fst kM_0) ?_
  refine st_if_ne (t := 116) h dX12_readBuyer_103 (by decide) (fun q1 => ?_) (fun q1 => ?_)
  · have hF := qI q1 hF
    cases hF
    exact st_vret h hr dX12_readBuyer_116
  · have hF := pI q1 hF
    refine st_aload_0 h dX12_readBuyer_106 ?_
    refine st_dup h rfl dX12_readBuyer_107 ?_
    refine gX12_29 h fl_X12_188 dX12_readBuyer_108 (congrArg Prod.fst kM_0) ?_
    refine st_ic_1 h dX12_readBuyer_111 ?_
    refine st_iadd h dX12_readBuyer_112 ?_
    obtain ⟨s1, hs1, hF⟩ := swI hF
    refine pX12_29 h fl_X12_188 dX12_readBuyer_113 (congrArg Prod.fst kM_0) hs1 ?_
    cases hF
    exact st_vret h hr dX12_readBuyer_116
set_option maxRecDepth 100000 in
set_option maxHeartbeats 4000000 in
theorem w_X12_readBuyer_73 {p : Program} {l : Launch} {e : Env} {s : State} {m : MethodId} {args : Array Value} {below : List Frame} {meth : Method} {c : Code} {G : Gv} (h : Cx p s m args meth c G cX12_readBuyer 2 RX12) (hr : meth.sig.returnType = none) {k36 : Sto → Int32 → Option Sto} (H36 : ∀ (σ : Sto) (i1 : Int32) (z : Sto), k36 σ i1 = some z → AW p l e (rmD 10 0 0) s m args below meth c (MQ below (QcR G shM νM none (ovM z)) args s 0 0 (gA G)) 0 0 G 2 36 [some (.ref 0), some (.int i1)] [] shM νM (ovM σ)) : ∀ (σ : Sto) (i1 : Int32) (z : Sto), F_X12_readBuyer_73 k36 σ i1 = some z → AW p l e (rmD 10 0 0) s m args below meth c (MQ below (QcR G shM νM none (ovM z)) args s 0 0 (gA G)) 0 0 G 2 73 [some (.ref 0), some (.int i1)] [] shM νM (ovM σ) := by
  intro σ i1 z hF
  rw [F_X12_readBuyer_73] at hF
  refine st_aload_0 h dX12_readBuyer_73 ?_
  refine gX12_27 h fl_X12_46 dX12_readBuyer_74 (congrArg Prod.fst kM_0) ?_
  refine st_ic_4 h dX12_readBuyer_77 ?_
  refine st_aload_0 h dX12_readBuyer_78 ?_
  refine gX12_29 h fl_X12_188 dX12_readBuyer_79 (congrArg Prod.fst kM_0) ?_
  refine st_imul h dX12_readBuyer_82 ?_
  refine st_iload_1 h dX12_readBuyer_83 ?_
  refine st_iadd h dX12_readBuyer_84 ?_
  refine st_aload_0 h dX12_readBuyer_85 ?_
  refine st_ic_0 h dX12_readBuyer_86 ?_
  refine st_bipush (v := 99) h dX12_readBuyer_87 (by decide) ?_
  obtain ⟨x1, hx1, hF⟩ := bI hF
  refine st_cVi (vs := [.int 0, .int 99]) (st := [.int ((4 * (σ.1 0 29)) + i1), .ref 11]) h (w_X12_readWhole hx1) mi_X12_readWhole mv_X12_readWhole ml_X12_177 dX12_readBuyer_89 kM_0 rfl ⟨Nat.le_of_ble_eq_true rfl, Nat.le_of_ble_eq_true rfl⟩ (Nat.le_of_ble_eq_true rfl) rfl ?_
  obtain ⟨g1, hF⟩ := gI hF
  obtain ⟨s1, hs1, hF⟩ := swI hF
  refine isM h dX12_readBuyer_92 kM_11 g1 hs1 ?_
  refine st_iinc_1 (y := i1 + 1) h dX12_readBuyer_93 (ii_1 _) ?_
  refine st_goto (t := 36) h dX12_readBuyer_96 (by decide) ?_
  exact st_sub (ls_s (ls_s ls_e)) (H36 s1 (i1 + 1) z hF)
set_option maxRecDepth 100000 in
set_option maxHeartbeats 4000000 in
theorem w_X12_readBuyer_69 {p : Program} {l : Launch} {e : Env} {s : State} {m : MethodId} {args : Array Value} {below : List Frame} {meth : Method} {c : Code} {G : Gv} (h : Cx p s m args meth c G cX12_readBuyer 2 RX12) (hr : meth.sig.returnType = none) {k36 : Sto → Int32 → Option Sto} (H36 : ∀ (σ : Sto) (i1 : Int32) (z : Sto), k36 σ i1 = some z → AW p l e (rmD 10 0 0) s m args below meth c (MQ below (QcR G shM νM none (ovM z)) args s 0 0 (gA G)) 0 0 G 2 36 [some (.ref 0), some (.int i1)] [] shM νM (ovM σ)) : ∀ (σ : Sto) (i1 : Int32) (z : Sto), F_X12_readBuyer_69 k36 σ i1 = some z → AW p l e (rmD 10 0 0) s m args below meth c (MQ below (QcR G shM νM none (ovM z)) args s 0 0 (gA G)) 0 0 G 2 69 [some (.ref 0), some (.int i1)] [] shM νM (ovM σ) := by
  intro σ i1 z hF
  rw [F_X12_readBuyer_69] at hF
  refine st_aload_0 h dX12_readBuyer_69 ?_
  obtain ⟨x1, hx1, hF⟩ := bI hF
  refine st_cVv (vs := []) (st := []) h (w_X12_goOn hx1) mi_X12_goOn mv_X12_goOn ml_X12_147 dX12_readBuyer_70 kM_0 rfl ⟨Nat.le_of_ble_eq_true rfl, Nat.le_of_ble_eq_true rfl⟩ (Nat.le_of_ble_eq_true rfl) rfl ?_
  exact st_sub (ls_s (ls_s ls_e)) (w_X12_readBuyer_73 h hr H36 x1 i1 z hF)
set_option maxRecDepth 100000 in
set_option maxHeartbeats 4000000 in
theorem w_X12_readBuyer_36 {p : Program} {l : Launch} {e : Env} {s : State} {m : MethodId} {args : Array Value} {below : List Frame} {meth : Method} {c : Code} {G : Gv} (h : Cx p s m args meth c G cX12_readBuyer 2 RX12) (hr : meth.sig.returnType = none) : ∀ (n : Nat) (σ : Sto) (i1 : Int32) (z : Sto), F_X12_readBuyer_36 n σ i1 = some z → AW p l e (rmD 10 0 0) s m args below meth c (MQ below (QcR G shM νM none (ovM z)) args s 0 0 (gA G)) 0 0 G 2 36 [some (.ref 0), some (.int i1)] [] shM νM (ovM σ) := by
  intro n
  induction n with
  | zero => intro σ i1 z hF; cases hF
  | succ n ih =>
    intro σ i1 z hF
    rw [F_X12_readBuyer_36] at hF
    refine st_iload_1 h dX12_readBuyer_36 ?_
    refine st_aload_0 h dX12_readBuyer_37 ?_
    refine gX12_23 h fl_X12_185 dX12_readBuyer_38 (congrArg Prod.fst kM_0) ?_
    refine st_icmp_ge (t := 99) h dX12_readBuyer_41 (by decide) (fun q1 => ?_) (fun q1 => ?_)
    · have hF := pI q1 hF
      exact st_sub (ls_s (ls_n ls_e)) (w_X12_readBuyer_99 h hr σ  z hF)
    · have hF := qI q1 hF
      refine st_aload_0 h dX12_readBuyer_44 ?_
      refine gX12_7 h fl_X12_82 dX12_readBuyer_45 (congrArg Prod.fst kM_0) ?_
      refine st_if_ne (t := 99) h dX12_readBuyer_48 (by decide) (fun q2 => ?_) (fun q2 => ?_)
      · have hF := qI q2 hF
        exact st_sub (ls_s (ls_n ls_e)) (w_X12_readBuyer_99 h hr σ  z hF)
      · have hF := pI q2 hF
        refine st_iload_1 h dX12_readBuyer_51 ?_
        refine st_if_le (t := 73) h dX12_readBuyer_52 (by decide) (fun q3 => ?_) (fun q3 => ?_)
        · have hF := pI q3 hF
          exact st_sub (ls_s (ls_s ls_e)) (w_X12_readBuyer_73 h hr ih σ i1 z hF)
        · have hF := qI q3 hF
          refine st_aload_0 h dX12_readBuyer_55 ?_
          refine st_bipush (v := 44) h dX12_readBuyer_56 (by decide) ?_
          obtain ⟨x1, hx1, hF⟩ := bI hF
          refine st_cVi (vs := [.int 44]) (st := []) h (w_X12_isSign hx1) mi_X12_isSign mv_X12_isSign ml_X12_194 dX12_readBuyer_58 kM_0 rfl ⟨Nat.le_of_ble_eq_true rfl, Nat.le_of_ble_eq_true rfl⟩ (Nat.le_of_ble_eq_true rfl) rfl ?_
          refine st_if_ne (t := 69) h dX12_readBuyer_61 (by decide) (fun q4 => ?_) (fun q4 => ?_)
          · have hF := qI q4 hF
            exact st_sub (ls_s (ls_s ls_e)) (w_X12_readBuyer_69 h hr ih σ i1 z hF)
          · have hF := pI q4 hF
            refine st_aload_0 h dX12_readBuyer_64 ?_
            refine st_ic_1 h dX12_readBuyer_65 ?_
            obtain ⟨x2, hx2, hF⟩ := bI hF
            refine st_cVv (vs := [.int 1]) (st := []) h (w_X12_flaw hx2) mi_X12_flaw mv_X12_flaw ml_X12_143 dX12_readBuyer_66 kM_0 rfl ⟨Nat.le_of_ble_eq_true rfl, Nat.le_of_ble_eq_true rfl⟩ (Nat.le_of_ble_eq_true rfl) rfl ?_
            exact st_sub (ls_s (ls_s ls_e)) (w_X12_readBuyer_69 h hr ih x2 i1 z hF)
set_option maxRecDepth 100000 in
set_option maxHeartbeats 4000000 in
theorem w_X12_readBuyer_20 {p : Program} {l : Launch} {e : Env} {s : State} {m : MethodId} {args : Array Value} {below : List Frame} {meth : Method} {c : Code} {G : Gv} (h : Cx p s m args meth c G cX12_readBuyer 2 RX12) (hr : meth.sig.returnType = none) : ∀ (σ : Sto) (z : Sto), F_X12_readBuyer_20 σ  = some z → AW p l e (rmD 10 0 0) s m args below meth c (MQ below (QcR G shM νM none (ovM z)) args s 0 0 (gA G)) 0 0 G 2 20 [some (.ref 0), none] [] shM νM (ovM σ) := by
  intro σ z hF
  rw [F_X12_readBuyer_20] at hF
  refine st_aload_0 h dX12_readBuyer_20 ?_
  obtain ⟨x1, hx1, hF⟩ := bI hF
  refine st_cVv (vs := []) (st := []) h (w_X12_goOn hx1) mi_X12_goOn mv_X12_goOn ml_X12_147 dX12_readBuyer_21 kM_0 rfl ⟨Nat.le_of_ble_eq_true rfl, Nat.le_of_ble_eq_true rfl⟩ (Nat.le_of_ble_eq_true rfl) rfl ?_
  refine st_aload_0 h dX12_readBuyer_24 ?_
  refine st_ic_4 h dX12_readBuyer_25 ?_
  refine st_aload_0 h dX12_readBuyer_26 ?_
  refine gX12_29 h fl_X12_188 dX12_readBuyer_27 (congrArg Prod.fst kM_0) ?_
  refine st_iadd h dX12_readBuyer_30 ?_
  obtain ⟨x2, hx2, hF⟩ := bI hF
  refine st_cVv (vs := [.int (4 + (x1.1 0 29))]) (st := []) h (w_X12_readName hx2) mi_X12_readName mv_X12_readName ml_X12_191 dX12_readBuyer_31 kM_0 rfl ⟨Nat.le_of_ble_eq_true rfl, Nat.le_of_ble_eq_true rfl⟩ (Nat.le_of_ble_eq_true rfl) rfl ?_
  refine st_ic_0 h dX12_readBuyer_34 ?_
  refine st_istore_1 h dX12_readBuyer_35 ?_
  exact st_sub (ls_s (ls_s ls_e)) (w_X12_readBuyer_36 h hr FU x2 0 z hF)
set_option maxRecDepth 100000 in
set_option maxHeartbeats 4000000 in
theorem w_X12_readBuyer_15 {p : Program} {l : Launch} {e : Env} {s : State} {m : MethodId} {args : Array Value} {below : List Frame} {meth : Method} {c : Code} {G : Gv} (h : Cx p s m args meth c G cX12_readBuyer 2 RX12) (hr : meth.sig.returnType = none) : ∀ (σ : Sto) (z : Sto), F_X12_readBuyer_15 σ  = some z → AW p l e (rmD 10 0 0) s m args below meth c (MQ below (QcR G shM νM none (ovM z)) args s 0 0 (gA G)) 0 0 G 2 15 [some (.ref 0), none] [] shM νM (ovM σ) := by
  intro σ z hF
  rw [F_X12_readBuyer_15] at hF
  refine st_aload_0 h dX12_readBuyer_15 ?_
  refine st_ic_4 h dX12_readBuyer_16 ?_
  obtain ⟨x1, hx1, hF⟩ := bI hF
  refine st_cVv (vs := [.int 4]) (st := []) h (w_X12_flaw hx1) mi_X12_flaw mv_X12_flaw ml_X12_143 dX12_readBuyer_17 kM_0 rfl ⟨Nat.le_of_ble_eq_true rfl, Nat.le_of_ble_eq_true rfl⟩ (Nat.le_of_ble_eq_true rfl) rfl ?_
  exact st_sub (ls_s (ls_n ls_e)) (w_X12_readBuyer_20 h hr x1  z hF)
set_option maxRecDepth 100000 in
set_option maxHeartbeats 4000000 in
theorem w_X12_readBuyer {l : Launch} {G : Gv} {σ : Sto} {z : Sto} (hF : F_X12_readBuyer σ  = some z) : Con l yX12_readBuyer cX12_readBuyer 2 none 10 G shM νM [.ref 0] (ovM σ) none (ovM z) := by
  rw [F_X12_readBuyer] at hF
  refine Con_enter (own := RX12) 1 (lv := [some (.ref 0), none]) mi_X12_readBuyer.2.2.2 rfl (Nat.le_of_ble_eq_true rfl) rfl (fun h hr hin => ?_)
  refine st_aload_0 h dX12_readBuyer_0 ?_
  refine gX12_29 h fl_X12_188 dX12_readBuyer_1 (congrArg Prod.fst kM_0) ?_
  refine st_ic_4 h dX12_readBuyer_4 ?_
  refine st_icmp_eq (t := 15) h dX12_readBuyer_5 (by decide) (fun q1 => ?_) (fun q1 => ?_)
  · have hF := pI q1 hF
    exact st_sub (ls_s (ls_n ls_e)) (w_X12_readBuyer_15 h hr σ  z hF)
  · have hF := qI q1 hF
    refine st_aload_0 h dX12_readBuyer_8 ?_
    refine gX12_23 h fl_X12_185 dX12_readBuyer_9 (congrArg Prod.fst kM_0) ?_
    refine st_if_ne (t := 20) h dX12_readBuyer_12 (by decide) (fun q2 => ?_) (fun q2 => ?_)
    · have hF := qI q2 hF
      exact st_sub (ls_s (ls_n ls_e)) (w_X12_readBuyer_20 h hr σ  z hF)
    · have hF := pI q2 hF
      exact st_sub (ls_s (ls_n ls_e)) (w_X12_readBuyer_15 h hr σ  z hF)
set_option maxRecDepth 100000 in
set_option maxHeartbeats 4000000 in
theorem w_X12_readService_174 {p : Program} {l : Launch} {e : Env} {s : State} {m : MethodId} {args : Array Value} {below : List Frame} {meth : Method} {c : Code} {G : Gv} (h : Cx p s m args meth c G cX12_readService 3 RX12) (hr : meth.sig.returnType = none) : ∀ (σ : Sto) (i1 : Int32) (e1 : Int32) (e2 : Int32) (z : Sto), F_X12_readService_174 σ i1 e1 e2 = some z → AW p l e (rmD 10 0 0) s m args below meth c (MQ below (QcR G shM νM none (ovM z)) args s 0 0 (gA G)) 0 0 G 3 174 [some (.ref 0), some (.int i1), none] [.int e2, .int e1, .ref 3] shM νM (ovM σ) := by
  intro σ i1 e1 e2 z hF
  rw [F_X12_readService_174] at hF
  obtain ⟨g1, hF⟩ := gI hF
  obtain ⟨s1, hs1, hF⟩ := swI hF
  refine isM h dX12_readService_174 kM_3 g1 hs1 ?_
  refine st_aload_0 h dX12_readService_175 ?_
  refine gX12_15 h fl_X12_20 dX12_readService_176 (congrArg Prod.fst kM_0) ?_
  refine st_iload_1 h dX12_readService_179 ?_
  refine st_ic_1 h dX12_readService_180 ?_
  refine st_iadd h dX12_readService_181 ?_
  refine st_aload_0 h dX12_readService_182 ?_
  refine gX12_15 h fl_X12_20 dX12_readService_183 (congrArg Prod.fst kM_0) ?_
  refine st_iload_1 h dX12_readService_186 ?_
  refine st_ic_0 h dX12_readService_187 ?_
  refine st_iadd h dX12_readService_188 ?_
  obtain ⟨g2, hF⟩ := gI hF
  refine iaM h dX12_readService_189 kM_3 g2 ?_
  obtain ⟨g3, hF⟩ := gI hF
  obtain ⟨s2, hs2, hF⟩ := swI hF
  refine isM h dX12_readService_190 kM_3 g3 hs2 ?_
  refine st_aload_0 h dX12_readService_191 ?_
  refine gX12_7 h fl_X12_82 dX12_readService_192 (congrArg Prod.fst kM_0) ?_
  refine st_if_ne (t := 208) h dX12_readService_195 (by decide) (fun q1 => ?_) (fun q1 => ?_)
  · have hF := qI q1 hF
    cases hF
    exact st_vret h hr dX12_readService_208
  · have hF := pI q1 hF
    refine st_aload_0 h dX12_readService_198 ?_
    refine st_dup h rfl dX12_readService_199 ?_
    refine gX12_23 h fl_X12_185 dX12_readService_200 (congrArg Prod.fst kM_0) ?_
    refine st_ic_1 h dX12_readService_203 ?_
    refine st_iadd h dX12_readService_204 ?_
    obtain ⟨s3, hs3, hF⟩ := swI hF
    refine pX12_23 h fl_X12_185 dX12_readService_205 (congrArg Prod.fst kM_0) hs3 ?_
    cases hF
    exact st_vret h hr dX12_readService_208
set_option maxRecDepth 100000 in
set_option maxHeartbeats 4000000 in
theorem w_X12_readService_148 {p : Program} {l : Launch} {e : Env} {s : State} {m : MethodId} {args : Array Value} {below : List Frame} {meth : Method} {c : Code} {G : Gv} (h : Cx p s m args meth c G cX12_readService 3 RX12) (hr : meth.sig.returnType = none) : ∀ (σ : Sto) (i1 : Int32) (i2 : Int32) (e1 : Int32) (e2 : Int32) (z : Sto), F_X12_readService_148 σ i1 i2 e1 e2 = some z → AW p l e (rmD 10 0 0) s m args below meth c (MQ below (QcR G shM νM none (ovM z)) args s 0 0 (gA G)) 0 0 G 3 148 [some (.ref 0), some (.int i1), some (.int i2)] [.int e2, .int e1, .ref 3] shM νM (ovM σ) := by
  intro σ i1 i2 e1 e2 z hF
  rw [F_X12_readService_148] at hF
  obtain ⟨g1, hF⟩ := gI hF
  obtain ⟨s1, hs1, hF⟩ := swI hF
  refine isM h dX12_readService_148 kM_3 g1 hs1 ?_
  refine st_aload_0 h dX12_readService_149 ?_
  refine gX12_15 h fl_X12_20 dX12_readService_150 (congrArg Prod.fst kM_0) ?_
  refine st_iload_1 h dX12_readService_153 ?_
  refine st_bipush (v := 6) h dX12_readService_154 (by decide) ?_
  refine st_iadd h dX12_readService_156 ?_
  refine st_iload_2 h dX12_readService_157 ?_
  refine st_if_eq (t := 173) h dX12_readService_158 (by decide) (fun q1 => ?_) (fun q1 => ?_)
  · have hF := pI q1 hF
    refine st_ic_0 h dX12_readService_173 ?_
    exact st_sub (ls_s (ls_s (ls_n ls_e))) (w_X12_readService_174 h hr s1 i1 (i1 + 6) 0 z hF)
  · have hF := qI q1 hF
    refine st_aload_0 h dX12_readService_161 ?_
    refine st_ldcS (tx := "target") (i := 6) h (by decide +kernel) dX12_readService_162 ?_
    refine st_ic_0 h dX12_readService_164 ?_
    refine st_bipush (v := 99) h dX12_readService_165 (by decide) ?_
    obtain ⟨x1, hx1, hF⟩ := bI hF
    refine st_cVi (vs := [.retAddr 6, .int 0, .int 99]) (st := [.int (i1 + 6), .ref 3]) h (w_X12_readTold hx1) mi_X12_readTold mv_X12_readTold ml_X12_197 dX12_readService_167 kM_0 rfl ⟨Nat.le_of_ble_eq_true rfl, Nat.le_of_ble_eq_true rfl⟩ (Nat.le_of_ble_eq_true rfl) rfl ?_
    refine st_goto (t := 174) h dX12_readService_170 (by decide) ?_
    exact st_sub (ls_s (ls_s (ls_n ls_e))) (w_X12_readService_174 h hr x1.2 i1 (i1 + 6) x1.1 z hF)
set_option maxRecDepth 100000 in
set_option maxHeartbeats 4000000 in
theorem w_X12_readService_20 {p : Program} {l : Launch} {e : Env} {s : State} {m : MethodId} {args : Array Value} {below : List Frame} {meth : Method} {c : Code} {G : Gv} (h : Cx p s m args meth c G cX12_readService 3 RX12) (hr : meth.sig.returnType = none) : ∀ (σ : Sto) (z : Sto), F_X12_readService_20 σ  = some z → AW p l e (rmD 10 0 0) s m args below meth c (MQ below (QcR G shM νM none (ovM z)) args s 0 0 (gA G)) 0 0 G 3 20 [some (.ref 0), none, none] [] shM νM (ovM σ) := by
  intro σ z hF
  rw [F_X12_readService_20] at hF
  refine st_aload_0 h dX12_readService_20 ?_
  obtain ⟨x1, hx1, hF⟩ := bI hF
  refine st_cVv (vs := []) (st := []) h (w_X12_goOn hx1) mi_X12_goOn mv_X12_goOn ml_X12_147 dX12_readService_21 kM_0 rfl ⟨Nat.le_of_ble_eq_true rfl, Nat.le_of_ble_eq_true rfl⟩ (Nat.le_of_ble_eq_true rfl) rfl ?_
  refine st_aload_0 h dX12_readService_24 ?_
  refine st_aload_0 h dX12_readService_25 ?_
  refine gX12_23 h fl_X12_185 dX12_readService_26 (congrArg Prod.fst kM_0) ?_
  obtain ⟨x2, hx2, hF⟩ := bI hF
  refine st_cVv (vs := [.int (x1.1 0 23)]) (st := []) h (w_X12_readName hx2) mi_X12_readName mv_X12_readName ml_X12_191 dX12_readService_29 kM_0 rfl ⟨Nat.le_of_ble_eq_true rfl, Nat.le_of_ble_eq_true rfl⟩ (Nat.le_of_ble_eq_true rfl) rfl ?_
  refine st_aload_0 h dX12_readService_32 ?_
  refine gX12_7 h fl_X12_82 dX12_readService_33 (congrArg Prod.fst kM_0) ?_
  refine st_if_le (t := 40) h dX12_readService_36 (by decide) (fun q1 => ?_) (fun q1 => ?_)
  · have hF := pI q1 hF
    refine st_bipush (v := 7) h dX12_readService_40 (by decide) ?_
    refine st_aload_0 h dX12_readService_42 ?_
    refine gX12_23 h fl_X12_185 dX12_readService_43 (congrArg Prod.fst kM_0) ?_
    refine st_imul h dX12_readService_46 ?_
    refine st_istore_1 h dX12_readService_47 ?_
    refine st_aload_0 h dX12_readService_48 ?_
    refine gX12_15 h fl_X12_20 dX12_readService_49 (congrArg Prod.fst kM_0) ?_
    refine st_iload_1 h dX12_readService_52 ?_
    refine st_ic_0 h dX12_readService_53 ?_
    refine st_iadd h dX12_readService_54 ?_
    refine st_aload_0 h dX12_readService_55 ?_
    refine st_ldcS (tx := "price") (i := 1) h (by decide +kernel) dX12_readService_56 ?_
    refine st_ic_0 h dX12_readService_58 ?_
    refine st_bipush (v := 20) h dX12_readService_59 (by decide) ?_
    obtain ⟨x3, hx3, hF⟩ := bI hF
    refine st_cVi (vs := [.retAddr 1, .int 0, .int 20]) (st := [.int ((7 * (x2.1 0 23)) + 0), .ref 3]) h (w_X12_readTold hx3) mi_X12_readTold mv_X12_readTold ml_X12_197 dX12_readService_61 kM_0 rfl ⟨Nat.le_of_ble_eq_true rfl, Nat.le_of_ble_eq_true rfl⟩ (Nat.le_of_ble_eq_true rfl) rfl ?_
    obtain ⟨g1, hF⟩ := gI hF
    obtain ⟨s1, hs1, hF⟩ := swI hF
    refine isM h dX12_readService_64 kM_3 g1 hs1 ?_
    refine st_aload_0 h dX12_readService_65 ?_
    refine gX12_15 h fl_X12_20 dX12_readService_66 (congrArg Prod.fst kM_0) ?_
    refine st_iload_1 h dX12_readService_69 ?_
    refine st_ic_2 h dX12_readService_70 ?_
    refine st_iadd h dX12_readService_71 ?_
    refine st_aload_0 h dX12_readService_72 ?_
    refine st_ldcS (tx := "size") (i := 2) h (by decide +kernel) dX12_readService_73 ?_
    refine st_ic_0 h dX12_readService_75 ?_
    refine st_sipush (v := 200) h dX12_readService_76 (by decide) ?_
    obtain ⟨x4, hx4, hF⟩ := bI hF
    refine st_cVi (vs := [.retAddr 2, .int 0, .int 200]) (st := [.int ((7 * (x2.1 0 23)) + 2), .ref 3]) h (w_X12_readTold hx4) mi_X12_readTold mv_X12_readTold ml_X12_197 dX12_readService_79 kM_0 rfl ⟨Nat.le_of_ble_eq_true rfl, Nat.le_of_ble_eq_true rfl⟩ (Nat.le_of_ble_eq_true rfl) rfl ?_
    obtain ⟨g2, hF⟩ := gI hF
    obtain ⟨s2, hs2, hF⟩ := swI hF
    refine isM h dX12_readService_82 kM_3 g2 hs2 ?_
    refine st_aload_0 h dX12_readService_83 ?_
    refine gX12_15 h fl_X12_20 dX12_readService_84 (congrArg Prod.fst kM_0) ?_
    refine st_iload_1 h dX12_readService_87 ?_
    refine st_ic_3 h dX12_readService_88 ?_
    refine st_iadd h dX12_readService_89 ?_
    refine st_aload_0 h dX12_readService_90 ?_
    refine st_ldcS (tx := "slope") (i := 3) h (by decide +kernel) dX12_readService_91 ?_
    refine st_ic_0 h dX12_readService_93 ?_
    refine st_bipush (v := 9) h dX12_readService_94 (by decide) ?_
    obtain ⟨x5, hx5, hF⟩ := bI hF
    refine st_cVi (vs := [.retAddr 3, .int 0, .int 9]) (st := [.int ((7 * (x2.1 0 23)) + 3), .ref 3]) h (w_X12_readTold hx5) mi_X12_readTold mv_X12_readTold ml_X12_197 dX12_readService_96 kM_0 rfl ⟨Nat.le_of_ble_eq_true rfl, Nat.le_of_ble_eq_true rfl⟩ (Nat.le_of_ble_eq_true rfl) rfl ?_
    obtain ⟨g3, hF⟩ := gI hF
    obtain ⟨s3, hs3, hF⟩ := swI hF
    refine isM h dX12_readService_99 kM_3 g3 hs3 ?_
    refine st_aload_0 h dX12_readService_100 ?_
    refine gX12_15 h fl_X12_20 dX12_readService_101 (congrArg Prod.fst kM_0) ?_
    refine st_iload_1 h dX12_readService_104 ?_
    refine st_ic_4 h dX12_readService_105 ?_
    refine st_iadd h dX12_readService_106 ?_
    refine st_aload_0 h dX12_readService_107 ?_
    refine st_ldcS (tx := "cost") (i := 4) h (by decide +kernel) dX12_readService_108 ?_
    refine st_ic_0 h dX12_readService_110 ?_
    refine st_bipush (v := 20) h dX12_readService_111 (by decide) ?_
    obtain ⟨x6, hx6, hF⟩ := bI hF
    refine st_cVi (vs := [.retAddr 4, .int 0, .int 20]) (st := [.int ((7 * (x2.1 0 23)) + 4), .ref 3]) h (w_X12_readTold hx6) mi_X12_readTold mv_X12_readTold ml_X12_197 dX12_readService_113 kM_0 rfl ⟨Nat.le_of_ble_eq_true rfl, Nat.le_of_ble_eq_true rfl⟩ (Nat.le_of_ble_eq_true rfl) rfl ?_
    obtain ⟨g4, hF⟩ := gI hF
    obtain ⟨s4, hs4, hF⟩ := swI hF
    refine isM h dX12_readService_116 kM_3 g4 hs4 ?_
    refine st_aload_0 h dX12_readService_117 ?_
    refine st_ldcS (tx := "quality") (i := 5) h (by decide +kernel) dX12_readService_118 ?_
    obtain ⟨x7, hx7, hF⟩ := bI hF
    refine st_cVi (vs := [.retAddr 5]) (st := []) h (w_X12_isWord hx7) mi_X12_isWord mv_X12_isWord ml_X12_139 dX12_readService_120 kM_0 rfl ⟨Nat.le_of_ble_eq_true rfl, Nat.le_of_ble_eq_true rfl⟩ (Nat.le_of_ble_eq_true rfl) rfl ?_
    refine st_istore_2 h dX12_readService_123 ?_
    refine st_aload_0 h dX12_readService_124 ?_
    refine gX12_15 h fl_X12_20 dX12_readService_125 (congrArg Prod.fst kM_0) ?_
    refine st_iload_1 h dX12_readService_128 ?_
    refine st_ic_5 h dX12_readService_129 ?_
    refine st_iadd h dX12_readService_130 ?_
    refine st_iload_2 h dX12_readService_131 ?_
    refine st_if_eq (t := 147) h dX12_readService_132 (by decide) (fun q2 => ?_) (fun q2 => ?_)
    · have hF := pI q2 hF
      refine st_ic_0 h dX12_readService_147 ?_
      exact st_sub (ls_s (ls_s (ls_s ls_e))) (w_X12_readService_148 h hr s4 (7 * (x2.1 0 23)) x7 ((7 * (x2.1 0 23)) + 5) 0 z hF)
    · have hF := qI q2 hF
      refine st_aload_0 h dX12_readService_135 ?_
      refine st_ldcS (tx := "quality") (i := 5) h (by decide +kernel) dX12_readService_136 ?_
      refine st_ic_0 h dX12_readService_138 ?_
      refine st_bipush (v := 99) h dX12_readService_139 (by decide) ?_
      obtain ⟨x8, hx8, hF⟩ := bI hF
      refine st_cVi (vs := [.retAddr 5, .int 0, .int 99]) (st := [.int ((7 * (x2.1 0 23)) + 5), .ref 3]) h (w_X12_readTold hx8) mi_X12_readTold mv_X12_readTold ml_X12_197 dX12_readService_141 kM_0 rfl ⟨Nat.le_of_ble_eq_true rfl, Nat.le_of_ble_eq_true rfl⟩ (Nat.le_of_ble_eq_true rfl) rfl ?_
      refine st_goto (t := 148) h dX12_readService_144 (by decide) ?_
      exact st_sub (ls_s (ls_s (ls_s ls_e))) (w_X12_readService_148 h hr x8.2 (7 * (x2.1 0 23)) x7 ((7 * (x2.1 0 23)) + 5) x8.1 z hF)
  · have hF := qI q1 hF
    cases hF
    exact st_vret h hr dX12_readService_39
set_option maxRecDepth 100000 in
set_option maxHeartbeats 4000000 in
theorem w_X12_readService_15 {p : Program} {l : Launch} {e : Env} {s : State} {m : MethodId} {args : Array Value} {below : List Frame} {meth : Method} {c : Code} {G : Gv} (h : Cx p s m args meth c G cX12_readService 3 RX12) (hr : meth.sig.returnType = none) : ∀ (σ : Sto) (z : Sto), F_X12_readService_15 σ  = some z → AW p l e (rmD 10 0 0) s m args below meth c (MQ below (QcR G shM νM none (ovM z)) args s 0 0 (gA G)) 0 0 G 3 15 [some (.ref 0), none, none] [] shM νM (ovM σ) := by
  intro σ z hF
  rw [F_X12_readService_15] at hF
  refine st_aload_0 h dX12_readService_15 ?_
  refine st_ic_4 h dX12_readService_16 ?_
  obtain ⟨x1, hx1, hF⟩ := bI hF
  refine st_cVv (vs := [.int 4]) (st := []) h (w_X12_flaw hx1) mi_X12_flaw mv_X12_flaw ml_X12_143 dX12_readService_17 kM_0 rfl ⟨Nat.le_of_ble_eq_true rfl, Nat.le_of_ble_eq_true rfl⟩ (Nat.le_of_ble_eq_true rfl) rfl ?_
  exact st_sub (ls_s (ls_n (ls_n ls_e))) (w_X12_readService_20 h hr x1  z hF)
set_option maxRecDepth 100000 in
set_option maxHeartbeats 4000000 in
theorem w_X12_readService {l : Launch} {G : Gv} {σ : Sto} {z : Sto} (hF : F_X12_readService σ  = some z) : Con l yX12_readService cX12_readService 3 none 10 G shM νM [.ref 0] (ovM σ) none (ovM z) := by
  rw [F_X12_readService] at hF
  refine Con_enter (own := RX12) 2 (lv := [some (.ref 0), none, none]) mi_X12_readService.2.2.2 rfl (Nat.le_of_ble_eq_true rfl) rfl (fun h hr hin => ?_)
  refine st_aload_0 h dX12_readService_0 ?_
  refine gX12_23 h fl_X12_185 dX12_readService_1 (congrArg Prod.fst kM_0) ?_
  refine st_ic_4 h dX12_readService_4 ?_
  refine st_icmp_eq (t := 15) h dX12_readService_5 (by decide) (fun q1 => ?_) (fun q1 => ?_)
  · have hF := pI q1 hF
    exact st_sub (ls_s (ls_n (ls_n ls_e))) (w_X12_readService_15 h hr σ  z hF)
  · have hF := qI q1 hF
    refine st_aload_0 h dX12_readService_8 ?_
    refine gX12_29 h fl_X12_188 dX12_readService_9 (congrArg Prod.fst kM_0) ?_
    refine st_if_le (t := 20) h dX12_readService_12 (by decide) (fun q2 => ?_) (fun q2 => ?_)
    · have hF := pI q2 hF
      exact st_sub (ls_s (ls_n (ls_n ls_e))) (w_X12_readService_20 h hr σ  z hF)
    · have hF := qI q2 hF
      exact st_sub (ls_s (ls_n (ls_n ls_e))) (w_X12_readService_15 h hr σ  z hF)
set_option maxRecDepth 100000 in
set_option maxHeartbeats 4000000 in
theorem w_X12_readRule_65 {p : Program} {l : Launch} {e : Env} {s : State} {m : MethodId} {args : Array Value} {below : List Frame} {meth : Method} {c : Code} {G : Gv} (h : Cx p s m args meth c G cX12_readRule 2 RX12) (hr : meth.sig.returnType = none) : ∀ (σ : Sto) (e1 : Int32) (e3 : Int32) (e4 : Int32) (z : Sto), F_X12_readRule_65 σ e1 e3 e4 = some z → AW p l e (rmD 5 0 0) s m args below meth c (MQ below (QcR G shM νM none (ovM z)) args s 0 0 (gA G)) 0 0 G 2 65 [none, none] [.int e4, .int e3, .ref 0, .int e1, .ref 3] shM νM (ovM σ) := by
  intro σ e1 e3 e4 z hF
  rw [F_X12_readRule_65] at hF
  obtain ⟨x1, hx1, hF⟩ := bI hF
  refine st_cVi (vs := [.int e3, .int e4]) (st := [.int e1, .ref 3]) h (w_X12_readWhole hx1) mi_X12_readWhole mv_X12_readWhole ml_X12_177 dX12_readRule_65 kM_0 rfl ⟨Nat.le_of_ble_eq_true rfl, Nat.le_of_ble_eq_true rfl⟩ (Nat.le_of_ble_eq_true rfl) rfl ?_
  obtain ⟨g1, hF⟩ := gI hF
  obtain ⟨s1, hs1, hF⟩ := swI hF
  refine isM h dX12_readRule_68 kM_3 g1 hs1 ?_
  cases hF
  exact st_vret h hr dX12_readRule_69
set_option maxRecDepth 100000 in
set_option maxHeartbeats 4000000 in
theorem w_X12_readRule_17 {p : Program} {l : Launch} {e : Env} {s : State} {m : MethodId} {args : Array Value} {below : List Frame} {meth : Method} {c : Code} {G : Gv} (h : Cx p s m args meth c G cX12_readRule 2 RX12) (hr : meth.sig.returnType = none) : ∀ (σ : Sto) (i1 : Int32) (z : Sto), F_X12_readRule_17 σ i1 = some z → AW p l e (rmD 5 0 0) s m args below meth c (MQ below (QcR G shM νM none (ovM z)) args s 0 0 (gA G)) 0 0 G 2 17 [some (.ref 0), some (.int i1)] [] shM νM (ovM σ) := by
  intro σ i1 z hF
  rw [F_X12_readRule_17] at hF
  refine st_aload_0 h dX12_readRule_17 ?_
  refine st_dup h rfl dX12_readRule_18 ?_
  refine gX12_30 h fl_X12_201 dX12_readRule_19 (congrArg Prod.fst kM_0) ?_
  refine st_ic_1 h dX12_readRule_22 ?_
  refine st_iload_1 h dX12_readRule_23 ?_
  refine st_ishl h dX12_readRule_24 ?_
  refine st_ior h dX12_readRule_25 ?_
  obtain ⟨s1, hs1, hF⟩ := swI hF
  refine pX12_30 h fl_X12_201 dX12_readRule_26 (congrArg Prod.fst kM_0) hs1 ?_
  refine st_aload_0 h dX12_readRule_29 ?_
  obtain ⟨x1, hx1, hF⟩ := bI hF
  refine st_cVv (vs := []) (st := []) h (w_X12_goOn hx1) mi_X12_goOn mv_X12_goOn ml_X12_147 dX12_readRule_30 kM_0 rfl ⟨Nat.le_of_ble_eq_true rfl, Nat.le_of_ble_eq_true rfl⟩ (Nat.le_of_ble_eq_true rfl) rfl ?_
  refine st_aload_0 h dX12_readRule_33 ?_
  refine gX12_15 h fl_X12_20 dX12_readRule_34 (congrArg Prod.fst kM_0) ?_
  refine st_bipush (v := 28) h dX12_readRule_37 (by decide) ?_
  refine st_iload_1 h dX12_readRule_39 ?_
  refine st_iadd h dX12_readRule_40 ?_
  refine st_aload_0 h dX12_readRule_41 ?_
  refine st_ic_0 h dX12_readRule_42 ?_
  refine st_iload_1 h dX12_readRule_43 ?_
  refine st_ic_2 h dX12_readRule_44 ?_
  refine st_icmp_ge (t := 53) h dX12_readRule_45 (by decide) (fun q1 => ?_) (fun q1 => ?_)
  · have hF := pI q1 hF
    refine st_iload_1 h dX12_readRule_53 ?_
    refine st_ic_2 h dX12_readRule_54 ?_
    refine st_icmp_ne (t := 63) h dX12_readRule_55 (by decide) (fun q2 => ?_) (fun q2 => ?_)
    · have hF := qI q2 hF
      refine st_bipush (v := 99) h dX12_readRule_63 (by decide) ?_
      exact st_sub (ls_n (ls_n ls_e)) (w_X12_readRule_65 h hr x1 (28 + i1) 0 99 z hF)
    · have hF := pI q2 hF
      refine st_bipush (v := 100) h dX12_readRule_58 (by decide) ?_
      refine st_goto (t := 65) h dX12_readRule_60 (by decide) ?_
      exact st_sub (ls_n (ls_n ls_e)) (w_X12_readRule_65 h hr x1 (28 + i1) 0 100 z hF)
  · have hF := qI q1 hF
    refine st_bipush (v := 50) h dX12_readRule_48 (by decide) ?_
    refine st_goto (t := 65) h dX12_readRule_50 (by decide) ?_
    exact st_sub (ls_n (ls_n ls_e)) (w_X12_readRule_65 h hr x1 (28 + i1) 0 50 z hF)
set_option maxRecDepth 100000 in
set_option maxHeartbeats 4000000 in
theorem w_X12_readRule {l : Launch} {G : Gv} {σ : Sto} {i1 : Int32} {z : Sto} (hF : F_X12_readRule σ i1 = some z) : Con l yX12_readRule cX12_readRule 2 none 5 G shM νM [.ref 0, .int i1] (ovM σ) none (ovM z) := by
  rw [F_X12_readRule] at hF
  refine Con_enter (own := RX12) 0 (lv := [some (.ref 0), some (.int i1)]) mi_X12_readRule.2.2.2 rfl (Nat.le_of_ble_eq_true rfl) rfl (fun h hr hin => ?_)
  refine st_aload_0 h dX12_readRule_0 ?_
  refine gX12_30 h fl_X12_201 dX12_readRule_1 (congrArg Prod.fst kM_0) ?_
  refine st_iload_1 h dX12_readRule_4 ?_
  refine st_ishr h dX12_readRule_5 ?_
  refine st_ic_1 h dX12_readRule_6 ?_
  refine st_iand h dX12_readRule_7 ?_
  refine st_ic_1 h dX12_readRule_8 ?_
  refine st_icmp_ne (t := 17) h dX12_readRule_9 (by decide) (fun q1 => ?_) (fun q1 => ?_)
  · have hF := qI q1 hF
    exact st_sub (ls_s (ls_s ls_e)) (w_X12_readRule_17 h hr σ i1 z hF)
  · have hF := pI q1 hF
    refine st_aload_0 h dX12_readRule_12 ?_
    refine st_ic_3 h dX12_readRule_13 ?_
    obtain ⟨x1, hx1, hF⟩ := bI hF
    refine st_cVv (vs := [.int 3]) (st := []) h (w_X12_flaw hx1) mi_X12_flaw mv_X12_flaw ml_X12_143 dX12_readRule_14 kM_0 rfl ⟨Nat.le_of_ble_eq_true rfl, Nat.le_of_ble_eq_true rfl⟩ (Nat.le_of_ble_eq_true rfl) rfl ?_
    exact st_sub (ls_s (ls_s ls_e)) (w_X12_readRule_17 h hr x1 i1 z hF)
set_option maxRecDepth 100000 in
set_option maxHeartbeats 4000000 in
theorem w_X12_readLine {l : Launch} {G : Gv} {σ : Sto} {z : Sto} (hF : F_X12_readLine σ  = some z) : Con l yX12_readLine cX12_readLine 1 none 11 G shM νM [.ref 0] (ovM σ) none (ovM z) := by
  rw [F_X12_readLine] at hF
  refine Con_enter (own := RX12) 0 (lv := [some (.ref 0)]) mi_X12_readLine.2.2.2 rfl (Nat.le_of_ble_eq_true rfl) rfl (fun h hr hin => ?_)
  refine st_aload_0 h dX12_readLine_0 ?_
  refine st_ldcS (tx := "service") (i := 0) h (by decide +kernel) dX12_readLine_1 ?_
  obtain ⟨x1, hx1, hF⟩ := bI hF
  refine st_cVi (vs := [.retAddr 0]) (st := []) h (w_X12_isWord hx1) mi_X12_isWord mv_X12_isWord ml_X12_139 dX12_readLine_3 kM_0 rfl ⟨Nat.le_of_ble_eq_true rfl, Nat.le_of_ble_eq_true rfl⟩ (Nat.le_of_ble_eq_true rfl) rfl ?_
  refine st_if_eq (t := 16) h dX12_readLine_6 (by decide) (fun q1 => ?_) (fun q1 => ?_)
  · have hF := pI q1 hF
    refine st_aload_0 h dX12_readLine_16 ?_
    refine st_ldcS (tx := "buyer") (i := 7) h (by decide +kernel) dX12_readLine_17 ?_
    obtain ⟨x2, hx2, hF⟩ := bI hF
    refine st_cVi (vs := [.retAddr 7]) (st := []) h (w_X12_isWord hx2) mi_X12_isWord mv_X12_isWord ml_X12_139 dX12_readLine_19 kM_0 rfl ⟨Nat.le_of_ble_eq_true rfl, Nat.le_of_ble_eq_true rfl⟩ (Nat.le_of_ble_eq_true rfl) rfl ?_
    refine st_if_eq (t := 32) h dX12_readLine_22 (by decide) (fun q2 => ?_) (fun q2 => ?_)
    · have hF := pI q2 hF
      refine st_aload_0 h dX12_readLine_32 ?_
      refine st_ldcS (tx := "index") (i := 8) h (by decide +kernel) dX12_readLine_33 ?_
      obtain ⟨x3, hx3, hF⟩ := bI hF
      refine st_cVi (vs := [.retAddr 8]) (st := []) h (w_X12_isWord hx3) mi_X12_isWord mv_X12_isWord ml_X12_139 dX12_readLine_35 kM_0 rfl ⟨Nat.le_of_ble_eq_true rfl, Nat.le_of_ble_eq_true rfl⟩ (Nat.le_of_ble_eq_true rfl) rfl ?_
      refine st_if_eq (t := 49) h dX12_readLine_38 (by decide) (fun q3 => ?_) (fun q3 => ?_)
      · have hF := pI q3 hF
        refine st_aload_0 h dX12_readLine_49 ?_
        refine st_ldcS (tx := "x") (i := 9) h (by decide +kernel) dX12_readLine_50 ?_
        obtain ⟨x4, hx4, hF⟩ := bI hF
        refine st_cVi (vs := [.retAddr 9]) (st := []) h (w_X12_isWord hx4) mi_X12_isWord mv_X12_isWord ml_X12_139 dX12_readLine_52 kM_0 rfl ⟨Nat.le_of_ble_eq_true rfl, Nat.le_of_ble_eq_true rfl⟩ (Nat.le_of_ble_eq_true rfl) rfl ?_
        refine st_if_eq (t := 66) h dX12_readLine_55 (by decide) (fun q4 => ?_) (fun q4 => ?_)
        · have hF := pI q4 hF
          refine st_aload_0 h dX12_readLine_66 ?_
          refine st_ldcS (tx := "carry") (i := 10) h (by decide +kernel) dX12_readLine_67 ?_
          obtain ⟨x5, hx5, hF⟩ := bI hF
          refine st_cVi (vs := [.retAddr 10]) (st := []) h (w_X12_isWord hx5) mi_X12_isWord mv_X12_isWord ml_X12_139 dX12_readLine_69 kM_0 rfl ⟨Nat.le_of_ble_eq_true rfl, Nat.le_of_ble_eq_true rfl⟩ (Nat.le_of_ble_eq_true rfl) rfl ?_
          refine st_if_eq (t := 83) h dX12_readLine_72 (by decide) (fun q5 => ?_) (fun q5 => ?_)
          · have hF := pI q5 hF
            refine st_aload_0 h dX12_readLine_83 ?_
            refine st_ldcS (tx := "due") (i := 11) h (by decide +kernel) dX12_readLine_84 ?_
            obtain ⟨x6, hx6, hF⟩ := bI hF
            refine st_cVi (vs := [.retAddr 11]) (st := []) h (w_X12_isWord hx6) mi_X12_isWord mv_X12_isWord ml_X12_139 dX12_readLine_86 kM_0 rfl ⟨Nat.le_of_ble_eq_true rfl, Nat.le_of_ble_eq_true rfl⟩ (Nat.le_of_ble_eq_true rfl) rfl ?_
            refine st_if_eq (t := 100) h dX12_readLine_89 (by decide) (fun q6 => ?_) (fun q6 => ?_)
            · have hF := pI q6 hF
              refine st_aload_0 h dX12_readLine_100 ?_
              refine st_ic_1 h dX12_readLine_101 ?_
              obtain ⟨x7, hx7, hF⟩ := bI hF
              refine st_cVv (vs := [.int 1]) (st := []) h (w_X12_flaw hx7) mi_X12_flaw mv_X12_flaw ml_X12_143 dX12_readLine_102 kM_0 rfl ⟨Nat.le_of_ble_eq_true rfl, Nat.le_of_ble_eq_true rfl⟩ (Nat.le_of_ble_eq_true rfl) rfl ?_
              cases hF
              exact st_vret h hr dX12_readLine_105
            · have hF := qI q6 hF
              refine st_aload_0 h dX12_readLine_92 ?_
              refine st_ic_3 h dX12_readLine_93 ?_
              obtain ⟨x8, hx8, hF⟩ := bI hF
              refine st_cVv (vs := [.int 3]) (st := []) h (w_X12_readRule hx8) mi_X12_readRule mv_X12_readRule ml_X12_210 dX12_readLine_94 kM_0 rfl ⟨Nat.le_of_ble_eq_true rfl, Nat.le_of_ble_eq_true rfl⟩ (Nat.le_of_ble_eq_true rfl) rfl ?_
              refine st_goto (t := 105) h dX12_readLine_97 (by decide) ?_
              cases hF
              exact st_vret h hr dX12_readLine_105
          · have hF := qI q5 hF
            refine st_aload_0 h dX12_readLine_75 ?_
            refine st_ic_2 h dX12_readLine_76 ?_
            obtain ⟨x9, hx9, hF⟩ := bI hF
            refine st_cVv (vs := [.int 2]) (st := []) h (w_X12_readRule hx9) mi_X12_readRule mv_X12_readRule ml_X12_210 dX12_readLine_77 kM_0 rfl ⟨Nat.le_of_ble_eq_true rfl, Nat.le_of_ble_eq_true rfl⟩ (Nat.le_of_ble_eq_true rfl) rfl ?_
            refine st_goto (t := 105) h dX12_readLine_80 (by decide) ?_
            cases hF
            exact st_vret h hr dX12_readLine_105
        · have hF := qI q4 hF
          refine st_aload_0 h dX12_readLine_58 ?_
          refine st_ic_1 h dX12_readLine_59 ?_
          obtain ⟨x10, hx10, hF⟩ := bI hF
          refine st_cVv (vs := [.int 1]) (st := []) h (w_X12_readRule hx10) mi_X12_readRule mv_X12_readRule ml_X12_210 dX12_readLine_60 kM_0 rfl ⟨Nat.le_of_ble_eq_true rfl, Nat.le_of_ble_eq_true rfl⟩ (Nat.le_of_ble_eq_true rfl) rfl ?_
          refine st_goto (t := 105) h dX12_readLine_63 (by decide) ?_
          cases hF
          exact st_vret h hr dX12_readLine_105
      · have hF := qI q3 hF
        refine st_aload_0 h dX12_readLine_41 ?_
        refine st_ic_0 h dX12_readLine_42 ?_
        obtain ⟨x11, hx11, hF⟩ := bI hF
        refine st_cVv (vs := [.int 0]) (st := []) h (w_X12_readRule hx11) mi_X12_readRule mv_X12_readRule ml_X12_210 dX12_readLine_43 kM_0 rfl ⟨Nat.le_of_ble_eq_true rfl, Nat.le_of_ble_eq_true rfl⟩ (Nat.le_of_ble_eq_true rfl) rfl ?_
        refine st_goto (t := 105) h dX12_readLine_46 (by decide) ?_
        cases hF
        exact st_vret h hr dX12_readLine_105
    · have hF := qI q2 hF
      refine st_aload_0 h dX12_readLine_25 ?_
      obtain ⟨x12, hx12, hF⟩ := bI hF
      refine st_cVv (vs := []) (st := []) h (w_X12_readBuyer hx12) mi_X12_readBuyer mv_X12_readBuyer ml_X12_207 dX12_readLine_26 kM_0 rfl ⟨Nat.le_of_ble_eq_true rfl, Nat.le_of_ble_eq_true rfl⟩ (Nat.le_of_ble_eq_true rfl) rfl ?_
      refine st_goto (t := 105) h dX12_readLine_29 (by decide) ?_
      cases hF
      exact st_vret h hr dX12_readLine_105
  · have hF := qI q1 hF
    refine st_aload_0 h dX12_readLine_9 ?_
    obtain ⟨x13, hx13, hF⟩ := bI hF
    refine st_cVv (vs := []) (st := []) h (w_X12_readService hx13) mi_X12_readService mv_X12_readService ml_X12_204 dX12_readLine_10 kM_0 rfl ⟨Nat.le_of_ble_eq_true rfl, Nat.le_of_ble_eq_true rfl⟩ (Nat.le_of_ble_eq_true rfl) rfl ?_
    refine st_goto (t := 105) h dX12_readLine_13 (by decide) ?_
    cases hF
    exact st_vret h hr dX12_readLine_105
set_option maxRecDepth 100000 in
set_option maxHeartbeats 4000000 in
theorem w_X12_text_248 {p : Program} {l : Launch} {e : Env} {s : State} {m : MethodId} {args : Array Value} {below : List Frame} {meth : Method} {c : Code} {G : Gv} (h : Cx p s m args meth c G cX12_text 3 RX12) (hr : meth.sig.returnType = (some .int)) : ∀ (n : Nat) (σ : Sto) (i2 : Int32) (z : (Int32 × Sto)), F_X12_text_248 n σ i2 = some z → AW p l e (rmD 12 0 0) s m args below meth c (MQ below (QcR G shM νM (some (.int z.1)) (ovM z.2)) args s 0 0 (gA G)) 0 0 G 3 248 [some (.ref 0), none, some (.int i2)] [] shM νM (ovM σ) := by
  intro n
  induction n with
  | zero => intro σ i2 z hF; cases hF
  | succ n ih =>
    intro σ i2 z hF
    rw [F_X12_text_248] at hF
    refine st_iload_2 h dX12_text_248 ?_
    refine st_bipush (v := 16) h dX12_text_249 (by decide) ?_
    refine st_icmp_ge (t := 272) h dX12_text_251 (by decide) (fun q1 => ?_) (fun q1 => ?_)
    · have hF := pI q1 hF
      refine st_aload_0 h dX12_text_272 ?_
      refine st_ic_0 h dX12_text_273 ?_
      obtain ⟨s1, hs1, hF⟩ := swI hF
      refine pX12_24 h fl_X12_226 dX12_text_274 (congrArg Prod.fst kM_0) hs1 ?_
      refine st_aload_0 h dX12_text_277 ?_
      refine st_ic_1 h dX12_text_278 ?_
      obtain ⟨s2, hs2, hF⟩ := swI hF
      refine pX12_25 h fl_X12_229 dX12_text_279 (congrArg Prod.fst kM_0) (Or.inr rfl) hs2 ?_
      refine st_aload_0 h dX12_text_282 ?_
      refine gX12_21 h fl_X12_39 dX12_text_283 (congrArg Prod.fst kM_0) ?_
      refine st_ic_0 h dX12_text_286 ?_
      refine st_ic_0 h dX12_text_287 ?_
      obtain ⟨s3, hs3, hF⟩ := swI hF
      refine bsM h dX12_text_288 kM_9 (by decide) (Or.inl rfl) hs3 ?_
      refine st_aload_0 h dX12_text_289 ?_
      refine gX12_21 h fl_X12_39 dX12_text_290 (congrArg Prod.fst kM_0) ?_
      refine st_ic_1 h dX12_text_293 ?_
      refine st_ic_0 h dX12_text_294 ?_
      obtain ⟨s4, hs4, hF⟩ := swI hF
      refine bsM h dX12_text_295 kM_9 (by decide) (Or.inl rfl) hs4 ?_
      refine st_aload_0 h dX12_text_296 ?_
      refine st_aload_0 h dX12_text_297 ?_
      refine gX12_22 h fl_X12_220 dX12_text_298 (congrArg Prod.fst kM_0) ?_
      obtain ⟨x1, hx1, hF⟩ := bI hF
      refine st_cVi (vs := [.int (s4.1 0 22)]) (st := []) h (w_X12_tells hx1) mi_X12_tells mv_X12_tells ml_X12_233 dX12_text_301 kM_0 rfl ⟨Nat.le_of_ble_eq_true rfl, Nat.le_of_ble_eq_true rfl⟩ (Nat.le_of_ble_eq_true rfl) rfl ?_
      cases hF
      exact st_iret h hr dX12_text_304
    · have hF := qI q1 hF
      refine st_aload_0 h dX12_text_254 ?_
      refine gX12_26 h fl_X12_43 dX12_text_255 (congrArg Prod.fst kM_0) ?_
      refine st_iload_2 h dX12_text_258 ?_
      refine st_aload_0 h dX12_text_259 ?_
      refine gX12_27 h fl_X12_46 dX12_text_260 (congrArg Prod.fst kM_0) ?_
      refine st_iload_2 h dX12_text_263 ?_
      obtain ⟨g1, hF⟩ := gI hF
      refine iaM h dX12_text_264 kM_11 g1 ?_
      obtain ⟨s5, hs5, hF⟩ := swI hF
      refine isM h dX12_text_265 kM_10 g1 hs5 ?_
      refine st_iinc_2 (y := i2 + 1) h dX12_text_266 (ii_1 _) ?_
      refine st_goto (t := 248) h dX12_text_269 (by decide) ?_
      exact st_sub (ls_s (ls_n (ls_s ls_e))) (ih s5 (i2 + 1) z hF)
set_option maxRecDepth 100000 in
set_option maxHeartbeats 4000000 in
theorem w_X12_text_207 {p : Program} {l : Launch} {e : Env} {s : State} {m : MethodId} {args : Array Value} {below : List Frame} {meth : Method} {c : Code} {G : Gv} (h : Cx p s m args meth c G cX12_text 3 RX12) (hr : meth.sig.returnType = (some .int)) : ∀ (n : Nat) (σ : Sto) (i2 : Int32) (z : (Int32 × Sto)), F_X12_text_207 n σ i2 = some z → AW p l e (rmD 12 0 0) s m args below meth c (MQ below (QcR G shM νM (some (.int z.1)) (ovM z.2)) args s 0 0 (gA G)) 0 0 G 3 207 [some (.ref 0), none, some (.int i2)] [] shM νM (ovM σ) := by
  intro n
  induction n with
  | zero => intro σ i2 z hF; cases hF
  | succ n ih =>
    intro σ i2 z hF
    rw [F_X12_text_207] at hF
    refine st_iload_2 h dX12_text_207 ?_
    refine st_ic_4 h dX12_text_208 ?_
    refine st_icmp_ge (t := 230) h dX12_text_209 (by decide) (fun q1 => ?_) (fun q1 => ?_)
    · have hF := pI q1 hF
      refine st_aload_0 h dX12_text_230 ?_
      refine st_aload_0 h dX12_text_231 ?_
      refine gX12_23 h fl_X12_185 dX12_text_232 (congrArg Prod.fst kM_0) ?_
      obtain ⟨s1, hs1, hF⟩ := swI hF
      refine pX12_22 h fl_X12_220 dX12_text_235 (congrArg Prod.fst kM_0) hs1 ?_
      refine st_aload_0 h dX12_text_238 ?_
      refine st_aload_0 h dX12_text_239 ?_
      refine gX12_29 h fl_X12_188 dX12_text_240 (congrArg Prod.fst kM_0) ?_
      obtain ⟨s2, hs2, hF⟩ := swI hF
      refine pX12_28 h fl_X12_223 dX12_text_243 (congrArg Prod.fst kM_0) hs2 ?_
      refine st_ic_0 h dX12_text_246 ?_
      refine st_istore_2 h dX12_text_247 ?_
      exact st_sub (ls_s (ls_n (ls_s ls_e))) (w_X12_text_248 h hr FU s2 0 z hF)
    · have hF := qI q1 hF
      refine st_aload_0 h dX12_text_212 ?_
      refine gX12_19 h fl_X12_32 dX12_text_213 (congrArg Prod.fst kM_0) ?_
      refine st_iload_2 h dX12_text_216 ?_
      refine st_aload_0 h dX12_text_217 ?_
      refine gX12_20 h fl_X12_36 dX12_text_218 (congrArg Prod.fst kM_0) ?_
      refine st_iload_2 h dX12_text_221 ?_
      obtain ⟨g1, hF⟩ := gI hF
      refine laM h dX12_text_222 kM_8 g1 ?_
      obtain ⟨g2, hF⟩ := gI hF
      obtain ⟨s3, hs3, hF⟩ := swI hF
      refine lsM h dX12_text_223 kM_7 g2 hs3 ?_
      refine st_iinc_2 (y := i2 + 1) h dX12_text_224 (ii_1 _) ?_
      refine st_goto (t := 207) h dX12_text_227 (by decide) ?_
      exact st_sub (ls_s (ls_n (ls_s ls_e))) (ih s3 (i2 + 1) z hF)
set_option maxRecDepth 100000 in
set_option maxHeartbeats 4000000 in
theorem w_X12_text_180 {p : Program} {l : Launch} {e : Env} {s : State} {m : MethodId} {args : Array Value} {below : List Frame} {meth : Method} {c : Code} {G : Gv} (h : Cx p s m args meth c G cX12_text 3 RX12) (hr : meth.sig.returnType = (some .int)) : ∀ (n : Nat) (σ : Sto) (i2 : Int32) (z : (Int32 × Sto)), F_X12_text_180 n σ i2 = some z → AW p l e (rmD 12 0 0) s m args below meth c (MQ below (QcR G shM νM (some (.int z.1)) (ovM z.2)) args s 0 0 (gA G)) 0 0 G 3 180 [some (.ref 0), none, some (.int i2)] [] shM νM (ovM σ) := by
  intro n
  induction n with
  | zero => intro σ i2 z hF; cases hF
  | succ n ih =>
    intro σ i2 z hF
    rw [F_X12_text_180] at hF
    refine st_iload_2 h dX12_text_180 ?_
    refine st_sipush (v := 534) h dX12_text_181 (by decide) ?_
    refine st_icmp_ge (t := 205) h dX12_text_184 (by decide) (fun q1 => ?_) (fun q1 => ?_)
    · have hF := pI q1 hF
      refine st_ic_0 h dX12_text_205 ?_
      refine st_istore_2 h dX12_text_206 ?_
      exact st_sub (ls_s (ls_n (ls_s ls_e))) (w_X12_text_207 h hr FU σ 0 z hF)
    · have hF := qI q1 hF
      refine st_aload_0 h dX12_text_187 ?_
      refine gX12_14 h fl_X12_17 dX12_text_188 (congrArg Prod.fst kM_0) ?_
      refine st_iload_2 h dX12_text_191 ?_
      refine st_aload_0 h dX12_text_192 ?_
      refine gX12_15 h fl_X12_20 dX12_text_193 (congrArg Prod.fst kM_0) ?_
      refine st_iload_2 h dX12_text_196 ?_
      obtain ⟨g1, hF⟩ := gI hF
      refine iaM h dX12_text_197 kM_3 g1 ?_
      obtain ⟨s1, hs1, hF⟩ := swI hF
      refine isM h dX12_text_198 kM_2 g1 hs1 ?_
      refine st_iinc_2 (y := i2 + 1) h dX12_text_199 (ii_1 _) ?_
      refine st_goto (t := 180) h dX12_text_202 (by decide) ?_
      exact st_sub (ls_s (ls_n (ls_s ls_e))) (ih s1 (i2 + 1) z hF)
set_option maxRecDepth 100000 in
set_option maxHeartbeats 4000000 in
theorem w_X12_text_156 {p : Program} {l : Launch} {e : Env} {s : State} {m : MethodId} {args : Array Value} {below : List Frame} {meth : Method} {c : Code} {G : Gv} (h : Cx p s m args meth c G cX12_text 3 RX12) (hr : meth.sig.returnType = (some .int)) : ∀ (σ : Sto) (z : (Int32 × Sto)), F_X12_text_156 σ  = some z → AW p l e (rmD 12 0 0) s m args below meth c (MQ below (QcR G shM νM (some (.int z.1)) (ovM z.2)) args s 0 0 (gA G)) 0 0 G 3 156 [some (.ref 0), none, none] [] shM νM (ovM σ) := by
  intro σ z hF
  rw [F_X12_text_156] at hF
  refine st_aload_0 h dX12_text_156 ?_
  refine gX12_7 h fl_X12_82 dX12_text_157 (congrArg Prod.fst kM_0) ?_
  refine st_if_le (t := 178) h dX12_text_160 (by decide) (fun q1 => ?_) (fun q1 => ?_)
  · have hF := pI q1 hF
    refine st_ic_0 h dX12_text_178 ?_
    refine st_istore_2 h dX12_text_179 ?_
    exact st_sub (ls_s (ls_n (ls_s ls_e))) (w_X12_text_180 h hr FU σ 0 z hF)
  · have hF := qI q1 hF
    refine st_aload_0 h dX12_text_163 ?_
    refine st_ic_4 h dX12_text_164 ?_
    obtain ⟨s1, hs1, hF⟩ := swI hF
    refine pX12_1 h fl_X12_76 dX12_text_165 (congrArg Prod.fst kM_0) hs1 ?_
    refine st_aload_0 h dX12_text_168 ?_
    refine st_aload_0 h dX12_text_169 ?_
    refine gX12_8 h fl_X12_88 dX12_text_170 (congrArg Prod.fst kM_0) ?_
    obtain ⟨s2, hs2, hF⟩ := swI hF
    refine pX12_2 h fl_X12_9 dX12_text_173 (congrArg Prod.fst kM_0) hs2 ?_
    refine st_ic_m1 h dX12_text_176 ?_
    cases hF
    exact st_iret h hr dX12_text_177
set_option maxRecDepth 100000 in
set_option maxHeartbeats 4000000 in
theorem w_X12_text_137 {p : Program} {l : Launch} {e : Env} {s : State} {m : MethodId} {args : Array Value} {below : List Frame} {meth : Method} {c : Code} {G : Gv} (h : Cx p s m args meth c G cX12_text 3 RX12) (hr : meth.sig.returnType = (some .int)) : ∀ (σ : Sto) (z : (Int32 × Sto)), F_X12_text_137 σ  = some z → AW p l e (rmD 12 0 0) s m args below meth c (MQ below (QcR G shM νM (some (.int z.1)) (ovM z.2)) args s 0 0 (gA G)) 0 0 G 3 137 [some (.ref 0), none, none] [] shM νM (ovM σ) := by
  intro σ z hF
  rw [F_X12_text_137] at hF
  refine st_aload_0 h dX12_text_137 ?_
  refine gX12_7 h fl_X12_82 dX12_text_138 (congrArg Prod.fst kM_0) ?_
  refine st_if_ne (t := 156) h dX12_text_141 (by decide) (fun q1 => ?_) (fun q1 => ?_)
  · have hF := qI q1 hF
    exact st_sub (ls_s (ls_n (ls_n ls_e))) (w_X12_text_156 h hr σ  z hF)
  · have hF := pI q1 hF
    refine st_aload_0 h dX12_text_144 ?_
    refine gX12_23 h fl_X12_185 dX12_text_145 (congrArg Prod.fst kM_0) ?_
    refine st_if_ne (t := 156) h dX12_text_148 (by decide) (fun q2 => ?_) (fun q2 => ?_)
    · have hF := qI q2 hF
      exact st_sub (ls_s (ls_n (ls_n ls_e))) (w_X12_text_156 h hr σ  z hF)
    · have hF := pI q2 hF
      refine st_aload_0 h dX12_text_151 ?_
      refine st_ic_5 h dX12_text_152 ?_
      obtain ⟨x1, hx1, hF⟩ := bI hF
      refine st_cVv (vs := [.int 5]) (st := []) h (w_X12_flaw hx1) mi_X12_flaw mv_X12_flaw ml_X12_143 dX12_text_153 kM_0 rfl ⟨Nat.le_of_ble_eq_true rfl, Nat.le_of_ble_eq_true rfl⟩ (Nat.le_of_ble_eq_true rfl) rfl ?_
      exact st_sub (ls_s (ls_n (ls_n ls_e))) (w_X12_text_156 h hr x1  z hF)
set_option maxRecDepth 100000 in
set_option maxHeartbeats 4000000 in
theorem w_X12_text_97 {p : Program} {l : Launch} {e : Env} {s : State} {m : MethodId} {args : Array Value} {below : List Frame} {meth : Method} {c : Code} {G : Gv} (h : Cx p s m args meth c G cX12_text 3 RX12) (hr : meth.sig.returnType = (some .int)) : ∀ (n : Nat) (σ : Sto) (z : (Int32 × Sto)), F_X12_text_97 n σ  = some z → AW p l e (rmD 12 0 0) s m args below meth c (MQ below (QcR G shM νM (some (.int z.1)) (ovM z.2)) args s 0 0 (gA G)) 0 0 G 3 97 [some (.ref 0), none, none] [] shM νM (ovM σ) := by
  intro n
  induction n with
  | zero => intro σ z hF; cases hF
  | succ n ih =>
    intro σ z hF
    rw [F_X12_text_97] at hF
    refine st_aload_0 h dX12_text_97 ?_
    refine st_bipush (v := 59) h dX12_text_98 (by decide) ?_
    obtain ⟨x1, hx1, hF⟩ := bI hF
    refine st_cVi (vs := [.int 59]) (st := []) h (w_X12_isSign hx1) mi_X12_isSign mv_X12_isSign ml_X12_194 dX12_text_100 kM_0 rfl ⟨Nat.le_of_ble_eq_true rfl, Nat.le_of_ble_eq_true rfl⟩ (Nat.le_of_ble_eq_true rfl) rfl ?_
    refine st_if_eq (t := 117) h dX12_text_103 (by decide) (fun q1 => ?_) (fun q1 => ?_)
    · have hF := pI q1 hF
      refine st_aload_0 h dX12_text_117 ?_
      refine gX12_7 h fl_X12_82 dX12_text_118 (congrArg Prod.fst kM_0) ?_
      refine st_if_ne (t := 137) h dX12_text_121 (by decide) (fun q2 => ?_) (fun q2 => ?_)
      · have hF := qI q2 hF
        exact st_sub (ls_s (ls_n (ls_n ls_e))) (w_X12_text_137 h hr σ  z hF)
      · have hF := pI q2 hF
        refine st_aload_0 h dX12_text_124 ?_
        refine gX12_9 h fl_X12_101 dX12_text_125 (congrArg Prod.fst kM_0) ?_
        refine st_ic_1 h dX12_text_128 ?_
        refine st_icmp_eq (t := 137) h dX12_text_129 (by decide) (fun q3 => ?_) (fun q3 => ?_)
        · have hF := pI q3 hF
          exact st_sub (ls_s (ls_n (ls_n ls_e))) (w_X12_text_137 h hr σ  z hF)
        · have hF := qI q3 hF
          refine st_aload_0 h dX12_text_132 ?_
          refine st_ic_1 h dX12_text_133 ?_
          obtain ⟨x2, hx2, hF⟩ := bI hF
          refine st_cVv (vs := [.int 1]) (st := []) h (w_X12_flaw hx2) mi_X12_flaw mv_X12_flaw ml_X12_143 dX12_text_134 kM_0 rfl ⟨Nat.le_of_ble_eq_true rfl, Nat.le_of_ble_eq_true rfl⟩ (Nat.le_of_ble_eq_true rfl) rfl ?_
          exact st_sub (ls_s (ls_n (ls_n ls_e))) (w_X12_text_137 h hr x2  z hF)
    · have hF := qI q1 hF
      refine st_aload_0 h dX12_text_106 ?_
      obtain ⟨x3, hx3, hF⟩ := bI hF
      refine st_cVv (vs := []) (st := []) h (w_X12_goOn hx3) mi_X12_goOn mv_X12_goOn ml_X12_147 dX12_text_107 kM_0 rfl ⟨Nat.le_of_ble_eq_true rfl, Nat.le_of_ble_eq_true rfl⟩ (Nat.le_of_ble_eq_true rfl) rfl ?_
      refine st_aload_0 h dX12_text_110 ?_
      obtain ⟨x4, hx4, hF⟩ := bI hF
      refine st_cVv (vs := []) (st := []) h (w_X12_readLine hx4) mi_X12_readLine mv_X12_readLine ml_X12_217 dX12_text_111 kM_0 rfl ⟨Nat.le_of_ble_eq_true rfl, Nat.le_of_ble_eq_true rfl⟩ (Nat.le_of_ble_eq_true rfl) rfl ?_
      refine st_goto (t := 97) h dX12_text_114 (by decide) ?_
      exact st_sub (ls_s (ls_n (ls_n ls_e))) (ih x4  z hF)
set_option maxRecDepth 100000 in
set_option maxHeartbeats 4000000 in
theorem w_X12_text_60 {p : Program} {l : Launch} {e : Env} {s : State} {m : MethodId} {args : Array Value} {below : List Frame} {meth : Method} {c : Code} {G : Gv} (h : Cx p s m args meth c G cX12_text 3 RX12) (hr : meth.sig.returnType = (some .int)) : ∀ (n : Nat) (σ : Sto) (i2 : Int32) (z : (Int32 × Sto)), F_X12_text_60 n σ i2 = some z → AW p l e (rmD 12 0 0) s m args below meth c (MQ below (QcR G shM νM (some (.int z.1)) (ovM z.2)) args s 0 0 (gA G)) 0 0 G 3 60 [some (.ref 0), none, some (.int i2)] [] shM νM (ovM σ) := by
  intro n
  induction n with
  | zero => intro σ i2 z hF; cases hF
  | succ n ih =>
    intro σ i2 z hF
    rw [F_X12_text_60] at hF
    refine st_iload_2 h dX12_text_60 ?_
    refine st_sipush (v := 534) h dX12_text_61 (by decide) ?_
    refine st_icmp_ge (t := 80) h dX12_text_64 (by decide) (fun q1 => ?_) (fun q1 => ?_)
    · have hF := pI q1 hF
      refine st_aload_0 h dX12_text_80 ?_
      refine gX12_15 h fl_X12_20 dX12_text_81 (congrArg Prod.fst kM_0) ?_
      refine st_bipush (v := 30) h dX12_text_84 (by decide) ?_
      refine st_bipush (v := 10) h dX12_text_86 (by decide) ?_
      obtain ⟨s1, hs1, hF⟩ := swI hF
      refine isM h dX12_text_88 kM_3 (by decide) hs1 ?_
      refine st_aload_0 h dX12_text_89 ?_
      obtain ⟨x1, hx1, hF⟩ := bI hF
      refine st_cVv (vs := []) (st := []) h (w_X12_goOn hx1) mi_X12_goOn mv_X12_goOn ml_X12_147 dX12_text_90 kM_0 rfl ⟨Nat.le_of_ble_eq_true rfl, Nat.le_of_ble_eq_true rfl⟩ (Nat.le_of_ble_eq_true rfl) rfl ?_
      refine st_aload_0 h dX12_text_93 ?_
      obtain ⟨x2, hx2, hF⟩ := bI hF
      refine st_cVv (vs := []) (st := []) h (w_X12_readLine hx2) mi_X12_readLine mv_X12_readLine ml_X12_217 dX12_text_94 kM_0 rfl ⟨Nat.le_of_ble_eq_true rfl, Nat.le_of_ble_eq_true rfl⟩ (Nat.le_of_ble_eq_true rfl) rfl ?_
      exact st_sub (ls_s (ls_n (ls_n ls_e))) (w_X12_text_97 h hr FU x2  z hF)
    · have hF := qI q1 hF
      refine st_aload_0 h dX12_text_67 ?_
      refine gX12_15 h fl_X12_20 dX12_text_68 (congrArg Prod.fst kM_0) ?_
      refine st_iload_2 h dX12_text_71 ?_
      refine st_ic_0 h dX12_text_72 ?_
      obtain ⟨g1, hF⟩ := gI hF
      obtain ⟨s2, hs2, hF⟩ := swI hF
      refine isM h dX12_text_73 kM_3 g1 hs2 ?_
      refine st_iinc_2 (y := i2 + 1) h dX12_text_74 (ii_1 _) ?_
      refine st_goto (t := 60) h dX12_text_77 (by decide) ?_
      exact st_sub (ls_s (ls_n (ls_s ls_e))) (ih s2 (i2 + 1) z hF)
set_option maxRecDepth 100000 in
set_option maxHeartbeats 4000000 in
theorem w_X12_text {l : Launch} {G : Gv} {σ : Sto} {i1 : Int32} {z : (Int32 × Sto)} (hF : F_X12_text σ i1 = some z) : Con l yX12_text cX12_text 3 (some .int) 12 G shM νM [.ref 0, .int i1] (ovM σ) (some (.int z.1)) (ovM z.2) := by
  rw [F_X12_text] at hF
  refine Con_enter (own := RX12) 1 (lv := [some (.ref 0), some (.int i1), none]) mi_X12_text.2.2.2 rfl (Nat.le_of_ble_eq_true rfl) rfl (fun h hr hin => ?_)
  refine st_aload_0 h dX12_text_0 ?_
  refine st_ic_0 h dX12_text_1 ?_
  obtain ⟨s1, hs1, hF⟩ := swI hF
  refine pX12_0 h fl_X12_73 dX12_text_2 (congrArg Prod.fst kM_0) hs1 ?_
  refine st_iload_1 h dX12_text_5 ?_
  refine st_ic_0 h dX12_text_6 ?_
  refine st_aload_0 h dX12_text_7 ?_
  refine gX12_4 h fl_X12_79 dX12_text_8 (congrArg Prod.fst kM_0) ?_
  obtain ⟨x1, hx1, hF⟩ := bI hF
  refine st_cSi (vs := [.int i1, .int 0, .int (s1.1 0 4)]) (st := []) h (w_X12_in hx1) mi_X12_in ms_X12_in ml_X12_94 dX12_text_11 rfl ⟨Nat.le_of_ble_eq_true rfl, Nat.le_of_ble_eq_true rfl⟩ (Nat.le_of_ble_eq_true rfl) rfl ?_
  refine st_if_ne (t := 23) h dX12_text_14 (by decide) (fun q1 => ?_) (fun q1 => ?_)
  · have hF := qI q1 hF
    refine st_aload_0 h dX12_text_23 ?_
    refine st_iload_1 h dX12_text_24 ?_
    obtain ⟨s2, hs2, hF⟩ := swI hF
    refine pX12_5 h fl_X12_91 dX12_text_25 (congrArg Prod.fst kM_0) hs2 ?_
    refine st_aload_0 h dX12_text_28 ?_
    refine st_ic_0 h dX12_text_29 ?_
    obtain ⟨s3, hs3, hF⟩ := swI hF
    refine pX12_4 h fl_X12_79 dX12_text_30 (congrArg Prod.fst kM_0) hs3 ?_
    refine st_aload_0 h dX12_text_33 ?_
    refine st_ic_0 h dX12_text_34 ?_
    obtain ⟨s4, hs4, hF⟩ := swI hF
    refine pX12_6 h fl_X12_98 dX12_text_35 (congrArg Prod.fst kM_0) hs4 ?_
    refine st_aload_0 h dX12_text_38 ?_
    refine st_ic_0 h dX12_text_39 ?_
    obtain ⟨s5, hs5, hF⟩ := swI hF
    refine pX12_7 h fl_X12_82 dX12_text_40 (congrArg Prod.fst kM_0) hs5 ?_
    refine st_aload_0 h dX12_text_43 ?_
    refine st_ic_0 h dX12_text_44 ?_
    obtain ⟨s6, hs6, hF⟩ := swI hF
    refine pX12_23 h fl_X12_185 dX12_text_45 (congrArg Prod.fst kM_0) hs6 ?_
    refine st_aload_0 h dX12_text_48 ?_
    refine st_ic_0 h dX12_text_49 ?_
    obtain ⟨s7, hs7, hF⟩ := swI hF
    refine pX12_29 h fl_X12_188 dX12_text_50 (congrArg Prod.fst kM_0) hs7 ?_
    refine st_aload_0 h dX12_text_53 ?_
    refine st_ic_0 h dX12_text_54 ?_
    obtain ⟨s8, hs8, hF⟩ := swI hF
    refine pX12_30 h fl_X12_201 dX12_text_55 (congrArg Prod.fst kM_0) hs8 ?_
    refine st_ic_0 h dX12_text_58 ?_
    refine st_istore_2 h dX12_text_59 ?_
    exact st_sub (ls_s (ls_n (ls_s ls_e))) (w_X12_text_60 h hr FU s8 0 z hF)
  · have hF := pI q1 hF
    refine st_aload_0 h dX12_text_17 ?_
    refine st_ic_2 h dX12_text_18 ?_
    obtain ⟨x2, hx2, hF⟩ := bI hF
    refine st_cVi (vs := [.int 2]) (st := []) h (w_X12_refused hx2) mi_X12_refused mv_X12_refused ml_X12_213 dX12_text_19 kM_0 rfl ⟨Nat.le_of_ble_eq_true rfl, Nat.le_of_ble_eq_true rfl⟩ (Nat.le_of_ble_eq_true rfl) rfl ?_
    cases hF
    exact st_iret h hr dX12_text_22
set_option maxRecDepth 100000 in
set_option maxHeartbeats 4000000 in
theorem w_X12_boughtAt {l : Launch} {G : Gv} {σ : Sto} {i1 : Int32} {i2 : Int32} {z : Int32} (hF : F_X12_boughtAt σ i1 i2 = some z) : Con l yX12_boughtAt cX12_boughtAt 4 (some .int) 2 G shM νM [.ref 0, .int i1, .int i2] (ovM σ) (some (.int z)) (ovM σ) := by
  rw [F_X12_boughtAt] at hF
  refine Con_enter (own := RX12) 1 (lv := [some (.ref 0), some (.int i1), some (.int i2), none]) mi_X12_boughtAt.2.2.2 rfl (Nat.le_of_ble_eq_true rfl) rfl (fun h hr hin => ?_)
  refine st_aload_0 h dX12_boughtAt_0 ?_
  refine st_iload_1 h dX12_boughtAt_1 ?_
  refine st_ic_2 h dX12_boughtAt_2 ?_
  obtain ⟨x1, hx1, hF⟩ := bI hF
  refine st_cVi (vs := [.int i1, .int 2]) (st := []) h (w_X12_of hx1) mi_X12_of mv_X12_of ml_X12_236 dX12_boughtAt_3 kM_0 rfl ⟨Nat.le_of_ble_eq_true rfl, Nat.le_of_ble_eq_true rfl⟩ (Nat.le_of_ble_eq_true rfl) rfl ?_
  refine st_aload_0 h dX12_boughtAt_6 ?_
  refine st_iload_1 h dX12_boughtAt_7 ?_
  refine st_ic_3 h dX12_boughtAt_8 ?_
  obtain ⟨x2, hx2, hF⟩ := bI hF
  refine st_cVi (vs := [.int i1, .int 3]) (st := [.int x1]) h (w_X12_of hx2) mi_X12_of mv_X12_of ml_X12_236 dX12_boughtAt_9 kM_0 rfl ⟨Nat.le_of_ble_eq_true rfl, Nat.le_of_ble_eq_true rfl⟩ (Nat.le_of_ble_eq_true rfl) rfl ?_
  refine st_iload_2 h dX12_boughtAt_12 ?_
  refine st_imul h dX12_boughtAt_13 ?_
  refine st_isub h dX12_boughtAt_14 ?_
  refine st_istore_3 h dX12_boughtAt_15 ?_
  refine st_iload_3 h dX12_boughtAt_16 ?_
  refine st_if_le (t := 24) h dX12_boughtAt_17 (by decide) (fun q1 => ?_) (fun q1 => ?_)
  · have hF := pI q1 hF
    refine st_ic_0 h dX12_boughtAt_24 ?_
    cases hF
    exact st_iret h hr dX12_boughtAt_25
  · have hF := qI q1 hF
    refine st_iload_3 h dX12_boughtAt_20 ?_
    refine st_goto (t := 25) h dX12_boughtAt_21 (by decide) ?_
    cases hF
    exact st_iret h hr dX12_boughtAt_25
set_option maxRecDepth 100000 in
set_option maxHeartbeats 4000000 in
theorem w_X12_profitAt {l : Launch} {G : Gv} {σ : Sto} {i1 : Int32} {i2 : Int32} {z : Int32} (hF : F_X12_profitAt σ i1 i2 = some z) : Con l yX12_profitAt cX12_profitAt 3 (some .int) 3 G shM νM [.ref 0, .int i1, .int i2] (ovM σ) (some (.int z)) (ovM σ) := by
  rw [F_X12_profitAt] at hF
  refine Con_enter (own := RX12) 0 (lv := [some (.ref 0), some (.int i1), some (.int i2)]) mi_X12_profitAt.2.2.2 rfl (Nat.le_of_ble_eq_true rfl) rfl (fun h hr hin => ?_)
  refine st_aload_0 h dX12_profitAt_0 ?_
  refine st_iload_1 h dX12_profitAt_1 ?_
  refine st_iload_2 h dX12_profitAt_2 ?_
  obtain ⟨x1, hx1, hF⟩ := bI hF
  refine st_cVi (vs := [.int i1, .int i2]) (st := []) h (w_X12_boughtAt hx1) mi_X12_boughtAt mv_X12_boughtAt ml_X12_239 dX12_profitAt_3 kM_0 rfl ⟨Nat.le_of_ble_eq_true rfl, Nat.le_of_ble_eq_true rfl⟩ (Nat.le_of_ble_eq_true rfl) rfl ?_
  refine st_iload_2 h dX12_profitAt_6 ?_
  refine st_aload_0 h dX12_profitAt_7 ?_
  refine st_iload_1 h dX12_profitAt_8 ?_
  refine st_ic_4 h dX12_profitAt_9 ?_
  obtain ⟨x2, hx2, hF⟩ := bI hF
  refine st_cVi (vs := [.int i1, .int 4]) (st := [.int i2, .int x1]) h (w_X12_of hx2) mi_X12_of mv_X12_of ml_X12_236 dX12_profitAt_10 kM_0 rfl ⟨Nat.le_of_ble_eq_true rfl, Nat.le_of_ble_eq_true rfl⟩ (Nat.le_of_ble_eq_true rfl) rfl ?_
  refine st_isub h dX12_profitAt_13 ?_
  refine st_imul h dX12_profitAt_14 ?_
  cases hF
  exact st_iret h hr dX12_profitAt_15
set_option maxRecDepth 100000 in
set_option maxHeartbeats 4000000 in
theorem w_X12_goodAt_12 {p : Program} {l : Launch} {e : Env} {s : State} {m : MethodId} {args : Array Value} {below : List Frame} {meth : Method} {c : Code} {G : Gv} (h : Cx p s m args meth c G cX12_goodAt 5 RX12) (hr : meth.sig.returnType = (some .int)) : ∀ (n : Nat) (σ : Sto) (i1 : Int32) (i3 : Int32) (i4 : Int32) (z : Int32), F_X12_goodAt_12 n σ i1 i3 i4 = some z → AW p l e (rmD 4 0 0) s m args below meth c (MQ below (QcR G shM νM (some (.int z)) (ovM σ)) args s 0 0 (gA G)) 0 0 G 5 12 [some (.ref 0), some (.int i1), none, some (.int i3), some (.int i4)] [] shM νM (ovM σ) := by
  intro n
  induction n with
  | zero => intro σ i1 i3 i4 z hF; cases hF
  | succ n ih =>
    intro σ i1 i3 i4 z hF
    rw [F_X12_goodAt_12] at hF
    refine st_iload_4 h dX12_goodAt_12 ?_
    refine st_bipush (v := 20) h dX12_goodAt_14 (by decide) ?_
    refine st_icmp_gt (t := 35) h dX12_goodAt_16 (by decide) (fun q1 => ?_) (fun q1 => ?_)
    · have hF := pI q1 hF
      refine st_iload_3 h dX12_goodAt_35 ?_
      cases hF
      exact st_iret h hr dX12_goodAt_36
    · have hF := qI q1 hF
      refine st_iload_3 h dX12_goodAt_19 ?_
      refine st_aload_0 h dX12_goodAt_20 ?_
      refine st_iload_1 h dX12_goodAt_21 ?_
      refine st_iload_4 h dX12_goodAt_22 ?_
      obtain ⟨x1, hx1, hF⟩ := bI hF
      refine st_cVi (vs := [.int i1, .int i4]) (st := [.int i3]) h (w_X12_boughtAt hx1) mi_X12_boughtAt mv_X12_boughtAt ml_X12_239 dX12_goodAt_24 kM_0 rfl ⟨Nat.le_of_ble_eq_true rfl, Nat.le_of_ble_eq_true rfl⟩ (Nat.le_of_ble_eq_true rfl) rfl ?_
      refine st_iadd h dX12_goodAt_27 ?_
      refine st_istore_3 h dX12_goodAt_28 ?_
      refine st_iinc_4 (y := i4 + 1) h dX12_goodAt_29 (ii_1 _) ?_
      refine st_goto (t := 12) h dX12_goodAt_32 (by decide) ?_
      exact st_sub (ls_s (ls_s (ls_n (ls_s (ls_s ls_e))))) (ih σ i1 (i3 + x1) (i4 + 1) z hF)
set_option maxRecDepth 100000 in
set_option maxHeartbeats 4000000 in
theorem w_X12_goodAt {l : Launch} {G : Gv} {σ : Sto} {i1 : Int32} {i2 : Int32} {z : Int32} (hF : F_X12_goodAt σ i1 i2 = some z) : Con l yX12_goodAt cX12_goodAt 5 (some .int) 4 G shM νM [.ref 0, .int i1, .int i2] (ovM σ) (some (.int z)) (ovM σ) := by
  rw [F_X12_goodAt] at hF
  refine Con_enter (own := RX12) 2 (lv := [some (.ref 0), some (.int i1), some (.int i2), none, none]) mi_X12_goodAt.2.2.2 rfl (Nat.le_of_ble_eq_true rfl) rfl (fun h hr hin => ?_)
  refine st_aload_0 h dX12_goodAt_0 ?_
  refine st_iload_1 h dX12_goodAt_1 ?_
  refine st_iload_2 h dX12_goodAt_2 ?_
  obtain ⟨x1, hx1, hF⟩ := bI hF
  refine st_cVi (vs := [.int i1, .int i2]) (st := []) h (w_X12_profitAt hx1) mi_X12_profitAt mv_X12_profitAt ml_X12_242 dX12_goodAt_3 kM_0 rfl ⟨Nat.le_of_ble_eq_true rfl, Nat.le_of_ble_eq_true rfl⟩ (Nat.le_of_ble_eq_true rfl) rfl ?_
  refine st_istore_3 h dX12_goodAt_6 ?_
  refine st_iload_2 h dX12_goodAt_7 ?_
  refine st_ic_1 h dX12_goodAt_8 ?_
  refine st_iadd h dX12_goodAt_9 ?_
  refine st_istore_4 h dX12_goodAt_10 ?_
  exact st_sub (ls_s (ls_s (ls_n (ls_s (ls_s ls_e))))) (w_X12_goodAt_12 h hr FU σ i1 x1 (i2 + 1) z hF)
set_option maxRecDepth 100000 in
set_option maxHeartbeats 4000000 in
theorem w_X12_weight {l : Launch} {G : Gv} {σ : Sto} {i1 : Int32} {z : Int32} (hF : F_X12_weight σ i1 = some z) : Con l yX12_weight cX12_weight 2 (some .int) 3 G shM νM [.ref 0, .int i1] (ovM σ) (some (.int z)) (ovM σ) := by
  rw [F_X12_weight] at hF
  refine Con_enter (own := RX12) 0 (lv := [some (.ref 0), some (.int i1)]) mi_X12_weight.2.2.2 rfl (Nat.le_of_ble_eq_true rfl) rfl (fun h hr hin => ?_)
  refine st_aload_0 h dX12_weight_0 ?_
  refine st_iload_1 h dX12_weight_1 ?_
  refine st_aload_0 h dX12_weight_2 ?_
  refine st_iload_1 h dX12_weight_3 ?_
  refine st_ic_0 h dX12_weight_4 ?_
  obtain ⟨x1, hx1, hF⟩ := bI hF
  refine st_cVi (vs := [.int i1, .int 0]) (st := [.int i1, .ref 0]) h (w_X12_of hx1) mi_X12_of mv_X12_of ml_X12_236 dX12_weight_5 kM_0 rfl ⟨Nat.le_of_ble_eq_true rfl, Nat.le_of_ble_eq_true rfl⟩ (Nat.le_of_ble_eq_true rfl) rfl ?_
  obtain ⟨x2, hx2, hF⟩ := bI hF
  refine st_cVi (vs := [.int i1, .int x1]) (st := []) h (w_X12_boughtAt hx2) mi_X12_boughtAt mv_X12_boughtAt ml_X12_239 dX12_weight_8 kM_0 rfl ⟨Nat.le_of_ble_eq_true rfl, Nat.le_of_ble_eq_true rfl⟩ (Nat.le_of_ble_eq_true rfl) rfl ?_
  cases hF
  exact st_iret h hr dX12_weight_11
set_option maxRecDepth 100000 in
set_option maxHeartbeats 4000000 in
theorem w_X12_rate {l : Launch} {G : Gv} {σ : Sto} {z : Int32} (hF : F_X12_rate σ  = some z) : Con l yX12_rate cX12_rate 1 (some .int) 1 G shM νM [.ref 0] (ovM σ) (some (.int z)) (ovM σ) := by
  rw [F_X12_rate] at hF
  refine Con_enter (own := RX12) 0 (lv := [some (.ref 0)]) mi_X12_rate.2.2.2 rfl (Nat.le_of_ble_eq_true rfl) rfl (fun h hr hin => ?_)
  refine st_bipush (v := 100) h dX12_rate_0 (by decide) ?_
  refine st_aload_0 h dX12_rate_2 ?_
  refine gX12_14 h fl_X12_17 dX12_rate_3 (congrArg Prod.fst kM_0) ?_
  refine st_bipush (v := 28) h dX12_rate_6 (by decide) ?_
  refine iaM h dX12_rate_8 kM_2 (by decide) ?_
  refine st_iadd h dX12_rate_9 ?_
  refine st_aload_0 h dX12_rate_10 ?_
  refine gX12_14 h fl_X12_17 dX12_rate_11 (congrArg Prod.fst kM_0) ?_
  refine st_bipush (v := 29) h dX12_rate_14 (by decide) ?_
  refine iaM h dX12_rate_16 kM_2 (by decide) ?_
  refine st_isub h dX12_rate_17 ?_
  cases hF
  exact st_iret h hr dX12_rate_18
set_option maxRecDepth 100000 in
set_option maxHeartbeats 4000000 in
theorem w_X12_base_4 {p : Program} {l : Launch} {e : Env} {s : State} {m : MethodId} {args : Array Value} {below : List Frame} {meth : Method} {c : Code} {G : Gv} (h : Cx p s m args meth c G cX12_base 3 RX12) (hr : meth.sig.returnType = (some .int)) : ∀ (n : Nat) (σ : Sto) (i1 : Int32) (i2 : Int32) (z : Int32), F_X12_base_4 n σ i1 i2 = some z → AW p l e (rmD 4 0 0) s m args below meth c (MQ below (QcR G shM νM (some (.int z)) (ovM σ)) args s 0 0 (gA G)) 0 0 G 3 4 [some (.ref 0), some (.int i1), some (.int i2)] [] shM νM (ovM σ) := by
  intro n
  induction n with
  | zero => intro σ i1 i2 z hF; cases hF
  | succ n ih =>
    intro σ i1 i2 z hF
    rw [F_X12_base_4] at hF
    refine st_iload_2 h dX12_base_4 ?_
    refine st_aload_0 h dX12_base_5 ?_
    refine gX12_22 h fl_X12_220 dX12_base_6 (congrArg Prod.fst kM_0) ?_
    refine st_icmp_ge (t := 33) h dX12_base_9 (by decide) (fun q1 => ?_) (fun q1 => ?_)
    · have hF := pI q1 hF
      refine st_iload_1 h dX12_base_33 ?_
      cases hF
      exact st_iret h hr dX12_base_34
    · have hF := qI q1 hF
      refine st_iload_1 h dX12_base_12 ?_
      refine st_aload_0 h dX12_base_13 ?_
      refine st_iload_2 h dX12_base_14 ?_
      refine st_ic_0 h dX12_base_15 ?_
      obtain ⟨x1, hx1, hF⟩ := bI hF
      refine st_cVi (vs := [.int i2, .int 0]) (st := [.int i1]) h (w_X12_of hx1) mi_X12_of mv_X12_of ml_X12_236 dX12_base_16 kM_0 rfl ⟨Nat.le_of_ble_eq_true rfl, Nat.le_of_ble_eq_true rfl⟩ (Nat.le_of_ble_eq_true rfl) rfl ?_
      refine st_aload_0 h dX12_base_19 ?_
      refine st_iload_2 h dX12_base_20 ?_
      obtain ⟨x2, hx2, hF⟩ := bI hF
      refine st_cVi (vs := [.int i2]) (st := [.int x1, .int i1]) h (w_X12_weight hx2) mi_X12_weight mv_X12_weight ml_X12_245 dX12_base_21 kM_0 rfl ⟨Nat.le_of_ble_eq_true rfl, Nat.le_of_ble_eq_true rfl⟩ (Nat.le_of_ble_eq_true rfl) rfl ?_
      refine st_imul h dX12_base_24 ?_
      refine st_iadd h dX12_base_25 ?_
      refine st_istore_1 h dX12_base_26 ?_
      refine st_iinc_2 (y := i2 + 1) h dX12_base_27 (ii_1 _) ?_
      refine st_goto (t := 4) h dX12_base_30 (by decide) ?_
      exact st_sub (ls_s (ls_s (ls_s ls_e))) (ih σ (i1 + (x1 * x2)) (i2 + 1) z hF)
set_option maxRecDepth 100000 in
set_option maxHeartbeats 4000000 in
theorem w_X12_base {l : Launch} {G : Gv} {σ : Sto} {z : Int32} (hF : F_X12_base σ  = some z) : Con l yX12_base cX12_base 3 (some .int) 4 G shM νM [.ref 0] (ovM σ) (some (.int z)) (ovM σ) := by
  rw [F_X12_base] at hF
  refine Con_enter (own := RX12) 2 (lv := [some (.ref 0), none, none]) mi_X12_base.2.2.2 rfl (Nat.le_of_ble_eq_true rfl) rfl (fun h hr hin => ?_)
  refine st_ic_0 h dX12_base_0 ?_
  refine st_istore_1 h dX12_base_1 ?_
  refine st_ic_0 h dX12_base_2 ?_
  refine st_istore_2 h dX12_base_3 ?_
  exact st_sub (ls_s (ls_s (ls_s ls_e))) (w_X12_base_4 h hr FU σ 0 0 z hF)
set_option maxRecDepth 100000 in
set_option maxHeartbeats 4000000 in
theorem w_X12_dues_4 {p : Program} {l : Launch} {e : Env} {s : State} {m : MethodId} {args : Array Value} {below : List Frame} {meth : Method} {c : Code} {G : Gv} (h : Cx p s m args meth c G cX12_dues 3 RX12) (hr : meth.sig.returnType = (some .int)) : ∀ (n : Nat) (σ : Sto) (i1 : Int32) (i2 : Int32) (z : Int32), F_X12_dues_4 n σ i1 i2 = some z → AW p l e (rmD 2 0 0) s m args below meth c (MQ below (QcR G shM νM (some (.int z)) (ovM σ)) args s 0 0 (gA G)) 0 0 G 3 4 [some (.ref 0), some (.int i1), some (.int i2)] [] shM νM (ovM σ) := by
  intro n
  induction n with
  | zero => intro σ i1 i2 z hF; cases hF
  | succ n ih =>
    intro σ i1 i2 z hF
    rw [F_X12_dues_4] at hF
    refine st_iload_2 h dX12_dues_4 ?_
    refine st_aload_0 h dX12_dues_5 ?_
    refine gX12_22 h fl_X12_220 dX12_dues_6 (congrArg Prod.fst kM_0) ?_
    refine st_icmp_ge (t := 63) h dX12_dues_9 (by decide) (fun q1 => ?_) (fun q1 => ?_)
    · have hF := pI q1 hF
      refine st_iload_1 h dX12_dues_63 ?_
      cases hF
      exact st_iret h hr dX12_dues_64
    · have hF := qI q1 hF
      refine st_iload_1 h dX12_dues_12 ?_
      refine st_aload_0 h dX12_dues_13 ?_
      refine st_iload_2 h dX12_dues_14 ?_
      refine st_bipush (v := 6) h dX12_dues_15 (by decide) ?_
      obtain ⟨x1, hx1, hF⟩ := bI hF
      refine st_cVi (vs := [.int i2, .int 6]) (st := [.int i1]) h (w_X12_of hx1) mi_X12_of mv_X12_of ml_X12_236 dX12_dues_17 kM_0 rfl ⟨Nat.le_of_ble_eq_true rfl, Nat.le_of_ble_eq_true rfl⟩ (Nat.le_of_ble_eq_true rfl) rfl ?_
      refine st_aload_0 h dX12_dues_20 ?_
      refine st_iload_2 h dX12_dues_21 ?_
      refine st_ic_5 h dX12_dues_22 ?_
      obtain ⟨x2, hx2, hF⟩ := bI hF
      refine st_cVi (vs := [.int i2, .int 5]) (st := [.int x1, .int i1]) h (w_X12_of hx2) mi_X12_of mv_X12_of ml_X12_236 dX12_dues_23 kM_0 rfl ⟨Nat.le_of_ble_eq_true rfl, Nat.le_of_ble_eq_true rfl⟩ (Nat.le_of_ble_eq_true rfl) rfl ?_
      refine st_icmp_le (t := 54) h dX12_dues_26 (by decide) (fun q2 => ?_) (fun q2 => ?_)
      · have hF := pI q2 hF
        refine st_ic_0 h dX12_dues_54 ?_
        refine st_iadd h dX12_dues_55 ?_
        refine st_istore_1 h dX12_dues_56 ?_
        refine st_iinc_2 (y := i2 + 1) h dX12_dues_57 (ii_1 _) ?_
        refine st_goto (t := 4) h dX12_dues_60 (by decide) ?_
        exact st_sub (ls_s (ls_s (ls_s ls_e))) (ih σ (i1 + 0) (i2 + 1) z hF)
      · have hF := qI q2 hF
        refine st_aload_0 h dX12_dues_29 ?_
        refine st_iload_2 h dX12_dues_30 ?_
        refine st_bipush (v := 6) h dX12_dues_31 (by decide) ?_
        obtain ⟨x3, hx3, hF⟩ := bI hF
        refine st_cVi (vs := [.int i2, .int 6]) (st := [.int i1]) h (w_X12_of hx3) mi_X12_of mv_X12_of ml_X12_236 dX12_dues_33 kM_0 rfl ⟨Nat.le_of_ble_eq_true rfl, Nat.le_of_ble_eq_true rfl⟩ (Nat.le_of_ble_eq_true rfl) rfl ?_
        refine st_aload_0 h dX12_dues_36 ?_
        refine st_iload_2 h dX12_dues_37 ?_
        refine st_ic_5 h dX12_dues_38 ?_
        obtain ⟨x4, hx4, hF⟩ := bI hF
        refine st_cVi (vs := [.int i2, .int 5]) (st := [.int x3, .int i1]) h (w_X12_of hx4) mi_X12_of mv_X12_of ml_X12_236 dX12_dues_39 kM_0 rfl ⟨Nat.le_of_ble_eq_true rfl, Nat.le_of_ble_eq_true rfl⟩ (Nat.le_of_ble_eq_true rfl) rfl ?_
        refine st_isub h dX12_dues_42 ?_
        refine st_aload_0 h dX12_dues_43 ?_
        refine gX12_14 h fl_X12_17 dX12_dues_44 (congrArg Prod.fst kM_0) ?_
        refine st_bipush (v := 31) h dX12_dues_47 (by decide) ?_
        refine iaM h dX12_dues_49 kM_2 (by decide) ?_
        refine st_imul h dX12_dues_50 ?_
        refine st_goto (t := 55) h dX12_dues_51 (by decide) ?_
        refine st_iadd h dX12_dues_55 ?_
        obtain ⟨v1, hv1, hF⟩ := swI hF
        refine st_nmi hv1 ?_
        refine st_istore_1 h dX12_dues_56 ?_
        refine st_iinc_2 (y := i2 + 1) h dX12_dues_57 (ii_1 _) ?_
        refine st_goto (t := 4) h dX12_dues_60 (by decide) ?_
        exact st_sub (ls_s (ls_s (ls_s ls_e))) (ih σ v1 (i2 + 1) z hF)
set_option maxRecDepth 100000 in
set_option maxHeartbeats 4000000 in
theorem w_X12_dues {l : Launch} {G : Gv} {σ : Sto} {z : Int32} (hF : F_X12_dues σ  = some z) : Con l yX12_dues cX12_dues 3 (some .int) 2 G shM νM [.ref 0] (ovM σ) (some (.int z)) (ovM σ) := by
  rw [F_X12_dues] at hF
  refine Con_enter (own := RX12) 2 (lv := [some (.ref 0), none, none]) mi_X12_dues.2.2.2 rfl (Nat.le_of_ble_eq_true rfl) rfl (fun h hr hin => ?_)
  refine st_ic_0 h dX12_dues_0 ?_
  refine st_istore_1 h dX12_dues_1 ?_
  refine st_ic_0 h dX12_dues_2 ?_
  refine st_istore_2 h dX12_dues_3 ?_
  exact st_sub (ls_s (ls_s (ls_s ls_e))) (w_X12_dues_4 h hr FU σ 0 0 z hF)
set_option maxRecDepth 100000 in
set_option maxHeartbeats 4000000 in
theorem w_X12_allowed {l : Launch} {G : Gv} {σ : Sto} {z : Int32} (hF : F_X12_allowed σ  = some z) : Con l yX12_allowed cX12_allowed 2 (some .int) 5 G shM νM [.ref 0] (ovM σ) (some (.int z)) (ovM σ) := by
  rw [F_X12_allowed] at hF
  refine Con_enter (own := RX12) 1 (lv := [some (.ref 0), none]) mi_X12_allowed.2.2.2 rfl (Nat.le_of_ble_eq_true rfl) rfl (fun h hr hin => ?_)
  refine st_aload_0 h dX12_allowed_0 ?_
  obtain ⟨x1, hx1, hF⟩ := bI hF
  refine st_cVi (vs := []) (st := []) h (w_X12_rate hx1) mi_X12_rate mv_X12_rate ml_X12_248 dX12_allowed_1 kM_0 rfl ⟨Nat.le_of_ble_eq_true rfl, Nat.le_of_ble_eq_true rfl⟩ (Nat.le_of_ble_eq_true rfl) rfl ?_
  refine st_aload_0 h dX12_allowed_4 ?_
  obtain ⟨x2, hx2, hF⟩ := bI hF
  refine st_cVi (vs := []) (st := [.int x1]) h (w_X12_base hx2) mi_X12_base mv_X12_base ml_X12_251 dX12_allowed_5 kM_0 rfl ⟨Nat.le_of_ble_eq_true rfl, Nat.le_of_ble_eq_true rfl⟩ (Nat.le_of_ble_eq_true rfl) rfl ?_
  refine st_imul h dX12_allowed_8 ?_
  refine st_bipush (v := 100) h dX12_allowed_9 (by decide) ?_
  refine st_idiv h (by decide) dX12_allowed_11 ?_
  refine st_aload_0 h dX12_allowed_12 ?_
  refine gX12_14 h fl_X12_17 dX12_allowed_13 (congrArg Prod.fst kM_0) ?_
  refine st_bipush (v := 33) h dX12_allowed_16 (by decide) ?_
  refine iaM h dX12_allowed_18 kM_2 (by decide) ?_
  refine st_iadd h dX12_allowed_19 ?_
  refine st_aload_0 h dX12_allowed_20 ?_
  obtain ⟨x3, hx3, hF⟩ := bI hF
  refine st_cVi (vs := []) (st := [.int (((x1 * x2) / 100) + (σ.1 2 (ix 33)))]) h (w_X12_dues hx3) mi_X12_dues mv_X12_dues ml_X12_254 dX12_allowed_21 kM_0 rfl ⟨Nat.le_of_ble_eq_true rfl, Nat.le_of_ble_eq_true rfl⟩ (Nat.le_of_ble_eq_true rfl) rfl ?_
  refine st_isub h dX12_allowed_24 ?_
  obtain ⟨v1, hv1, hF⟩ := swI hF
  refine st_nmi hv1 ?_
  refine st_istore_1 h dX12_allowed_25 ?_
  refine st_iload_1 h dX12_allowed_26 ?_
  refine st_if_le (t := 34) h dX12_allowed_27 (by decide) (fun q1 => ?_) (fun q1 => ?_)
  · have hF := pI q1 hF
    refine st_ic_0 h dX12_allowed_34 ?_
    cases hF
    exact st_iret h hr dX12_allowed_35
  · have hF := qI q1 hF
    refine st_iload_1 h dX12_allowed_30 ?_
    refine st_goto (t := 35) h dX12_allowed_31 (by decide) ?_
    cases hF
    exact st_iret h hr dX12_allowed_35
set_option maxRecDepth 100000 in
set_option maxHeartbeats 4000000 in
theorem w_X12_spent_4 {p : Program} {l : Launch} {e : Env} {s : State} {m : MethodId} {args : Array Value} {below : List Frame} {meth : Method} {c : Code} {G : Gv} (h : Cx p s m args meth c G cX12_spent 3 RX12) (hr : meth.sig.returnType = (some .int)) : ∀ (n : Nat) (σ : Sto) (i1 : Int32) (i2 : Int32) (z : Int32), F_X12_spent_4 n σ i1 i2 = some z → AW p l e (rmD 4 0 0) s m args below meth c (MQ below (QcR G shM νM (some (.int z)) (ovM σ)) args s 0 0 (gA G)) 0 0 G 3 4 [some (.ref 0), some (.int i1), some (.int i2)] [] shM νM (ovM σ) := by
  intro n
  induction n with
  | zero => intro σ i1 i2 z hF; cases hF
  | succ n ih =>
    intro σ i1 i2 z hF
    rw [F_X12_spent_4] at hF
    refine st_iload_2 h dX12_spent_4 ?_
    refine st_aload_0 h dX12_spent_5 ?_
    refine gX12_22 h fl_X12_220 dX12_spent_6 (congrArg Prod.fst kM_0) ?_
    refine st_icmp_ge (t := 33) h dX12_spent_9 (by decide) (fun q1 => ?_) (fun q1 => ?_)
    · have hF := pI q1 hF
      refine st_iload_1 h dX12_spent_33 ?_
      cases hF
      exact st_iret h hr dX12_spent_34
    · have hF := qI q1 hF
      refine st_iload_1 h dX12_spent_12 ?_
      refine st_aload_0 h dX12_spent_13 ?_
      refine st_iload_2 h dX12_spent_14 ?_
      refine st_ic_1 h dX12_spent_15 ?_
      obtain ⟨x1, hx1, hF⟩ := bI hF
      refine st_cVi (vs := [.int i2, .int 1]) (st := [.int i1]) h (w_X12_of hx1) mi_X12_of mv_X12_of ml_X12_236 dX12_spent_16 kM_0 rfl ⟨Nat.le_of_ble_eq_true rfl, Nat.le_of_ble_eq_true rfl⟩ (Nat.le_of_ble_eq_true rfl) rfl ?_
      refine st_aload_0 h dX12_spent_19 ?_
      refine st_iload_2 h dX12_spent_20 ?_
      obtain ⟨x2, hx2, hF⟩ := bI hF
      refine st_cVi (vs := [.int i2]) (st := [.int x1, .int i1]) h (w_X12_weight hx2) mi_X12_weight mv_X12_weight ml_X12_245 dX12_spent_21 kM_0 rfl ⟨Nat.le_of_ble_eq_true rfl, Nat.le_of_ble_eq_true rfl⟩ (Nat.le_of_ble_eq_true rfl) rfl ?_
      refine st_imul h dX12_spent_24 ?_
      refine st_iadd h dX12_spent_25 ?_
      refine st_istore_1 h dX12_spent_26 ?_
      refine st_iinc_2 (y := i2 + 1) h dX12_spent_27 (ii_1 _) ?_
      refine st_goto (t := 4) h dX12_spent_30 (by decide) ?_
      exact st_sub (ls_s (ls_s (ls_s ls_e))) (ih σ (i1 + (x1 * x2)) (i2 + 1) z hF)
set_option maxRecDepth 100000 in
set_option maxHeartbeats 4000000 in
theorem w_X12_spent {l : Launch} {G : Gv} {σ : Sto} {z : Int32} (hF : F_X12_spent σ  = some z) : Con l yX12_spent cX12_spent 3 (some .int) 4 G shM νM [.ref 0] (ovM σ) (some (.int z)) (ovM σ) := by
  rw [F_X12_spent] at hF
  refine Con_enter (own := RX12) 2 (lv := [some (.ref 0), none, none]) mi_X12_spent.2.2.2 rfl (Nat.le_of_ble_eq_true rfl) rfl (fun h hr hin => ?_)
  refine st_ic_0 h dX12_spent_0 ?_
  refine st_istore_1 h dX12_spent_1 ?_
  refine st_ic_0 h dX12_spent_2 ?_
  refine st_istore_2 h dX12_spent_3 ?_
  exact st_sub (ls_s (ls_s (ls_s ls_e))) (w_X12_spent_4 h hr FU σ 0 0 z hF)
set_option maxRecDepth 100000 in
set_option maxHeartbeats 4000000 in
theorem w_X12_isKept {l : Launch} {G : Gv} {σ : Sto} {z : Int32} (hF : F_X12_isKept σ  = some z) : Con l yX12_isKept cX12_isKept 1 (some .boolean) 6 G shM νM [.ref 0] (ovM σ) (some (.int z)) (ovM σ) := by
  rw [F_X12_isKept] at hF
  refine Con_enter (own := RX12) 0 (lv := [some (.ref 0)]) mi_X12_isKept.2.2.2 rfl (Nat.le_of_ble_eq_true rfl) rfl (fun h hr hin => ?_)
  refine st_aload_0 h dX12_isKept_0 ?_
  obtain ⟨x1, hx1, hF⟩ := bI hF
  refine st_cVi (vs := []) (st := []) h (w_X12_spent hx1) mi_X12_spent mv_X12_spent ml_X12_257 dX12_isKept_1 kM_0 rfl ⟨Nat.le_of_ble_eq_true rfl, Nat.le_of_ble_eq_true rfl⟩ (Nat.le_of_ble_eq_true rfl) rfl ?_
  refine st_aload_0 h dX12_isKept_4 ?_
  obtain ⟨x2, hx2, hF⟩ := bI hF
  refine st_cVi (vs := []) (st := [.int x1]) h (w_X12_allowed hx2) mi_X12_allowed mv_X12_allowed ml_X12_260 dX12_isKept_5 kM_0 rfl ⟨Nat.le_of_ble_eq_true rfl, Nat.le_of_ble_eq_true rfl⟩ (Nat.le_of_ble_eq_true rfl) rfl ?_
  refine st_icmp_gt (t := 15) h dX12_isKept_8 (by decide) (fun q1 => ?_) (fun q1 => ?_)
  · have hF := pI q1 hF
    refine st_ic_0 h dX12_isKept_15 ?_
    cases hF
    exact st_zret h hr (Or.inl rfl) dX12_isKept_16
  · have hF := qI q1 hF
    refine st_ic_1 h dX12_isKept_11 ?_
    refine st_goto (t := 16) h dX12_isKept_12 (by decide) ?_
    cases hF
    exact st_zret h hr (Or.inr rfl) dX12_isKept_16
set_option maxRecDepth 100000 in
set_option maxHeartbeats 4000000 in
theorem w_X12_off_4 {p : Program} {l : Launch} {e : Env} {s : State} {m : MethodId} {args : Array Value} {below : List Frame} {meth : Method} {c : Code} {G : Gv} (h : Cx p s m args meth c G cX12_off 4 RX12) (hr : meth.sig.returnType = (some .int)) : ∀ (n : Nat) (σ : Sto) (i1 : Int32) (i2 : Int32) (i3 : Int32) (z : Int32), F_X12_off_4 n σ i1 i2 i3 = some z → AW p l e (rmD 2 0 0) s m args below meth c (MQ below (QcR G shM νM (some (.int z)) (ovM σ)) args s 0 0 (gA G)) 0 0 G 4 4 [some (.ref 0), some (.int i1), some (.int i2), some (.int i3)] [] shM νM (ovM σ) := by
  intro n
  induction n with
  | zero => intro σ i1 i2 i3 z hF; cases hF
  | succ n ih =>
    intro σ i1 i2 i3 z hF
    rw [F_X12_off_4] at hF
    refine st_iload_3 h dX12_off_4 ?_
    refine st_aload_0 h dX12_off_5 ?_
    refine gX12_22 h fl_X12_220 dX12_off_6 (congrArg Prod.fst kM_0) ?_
    refine st_icmp_ge (t := 65) h dX12_off_9 (by decide) (fun q1 => ?_) (fun q1 => ?_)
    · have hF := pI q1 hF
      refine st_iload_2 h dX12_off_65 ?_
      cases hF
      exact st_iret h hr dX12_off_66
    · have hF := qI q1 hF
      refine st_iload_2 h dX12_off_12 ?_
      refine st_aload_0 h dX12_off_13 ?_
      refine st_iload_3 h dX12_off_14 ?_
      refine st_iload_1 h dX12_off_15 ?_
      obtain ⟨x1, hx1, hF⟩ := bI hF
      refine st_cVi (vs := [.int i3, .int i1]) (st := [.int i2]) h (w_X12_of hx1) mi_X12_of mv_X12_of ml_X12_236 dX12_off_16 kM_0 rfl ⟨Nat.le_of_ble_eq_true rfl, Nat.le_of_ble_eq_true rfl⟩ (Nat.le_of_ble_eq_true rfl) rfl ?_
      refine st_aload_0 h dX12_off_19 ?_
      refine st_iload_3 h dX12_off_20 ?_
      refine st_ic_4 h dX12_off_21 ?_
      obtain ⟨x2, hx2, hF⟩ := bI hF
      refine st_cVi (vs := [.int i3, .int 4]) (st := [.int x1, .int i2]) h (w_X12_of hx2) mi_X12_of mv_X12_of ml_X12_236 dX12_off_22 kM_0 rfl ⟨Nat.le_of_ble_eq_true rfl, Nat.le_of_ble_eq_true rfl⟩ (Nat.le_of_ble_eq_true rfl) rfl ?_
      refine st_icmp_le (t := 44) h dX12_off_25 (by decide) (fun q2 => ?_) (fun q2 => ?_)
      · have hF := pI q2 hF
        refine st_aload_0 h dX12_off_44 ?_
        refine st_iload_3 h dX12_off_45 ?_
        refine st_ic_4 h dX12_off_46 ?_
        obtain ⟨x3, hx3, hF⟩ := bI hF
        refine st_cVi (vs := [.int i3, .int 4]) (st := [.int i2]) h (w_X12_of hx3) mi_X12_of mv_X12_of ml_X12_236 dX12_off_47 kM_0 rfl ⟨Nat.le_of_ble_eq_true rfl, Nat.le_of_ble_eq_true rfl⟩ (Nat.le_of_ble_eq_true rfl) rfl ?_
        refine st_aload_0 h dX12_off_50 ?_
        refine st_iload_3 h dX12_off_51 ?_
        refine st_iload_1 h dX12_off_52 ?_
        obtain ⟨x4, hx4, hF⟩ := bI hF
        refine st_cVi (vs := [.int i3, .int i1]) (st := [.int x3, .int i2]) h (w_X12_of hx4) mi_X12_of mv_X12_of ml_X12_236 dX12_off_53 kM_0 rfl ⟨Nat.le_of_ble_eq_true rfl, Nat.le_of_ble_eq_true rfl⟩ (Nat.le_of_ble_eq_true rfl) rfl ?_
        refine st_isub h dX12_off_56 ?_
        refine st_iadd h dX12_off_57 ?_
        refine st_istore_2 h dX12_off_58 ?_
        refine st_iinc_3 (y := i3 + 1) h dX12_off_59 (ii_1 _) ?_
        refine st_goto (t := 4) h dX12_off_62 (by decide) ?_
        exact st_sub (ls_s (ls_s (ls_s (ls_s ls_e)))) (ih σ i1 (i2 + (x3 - x4)) (i3 + 1) z hF)
      · have hF := qI q2 hF
        refine st_aload_0 h dX12_off_28 ?_
        refine st_iload_3 h dX12_off_29 ?_
        refine st_iload_1 h dX12_off_30 ?_
        obtain ⟨x5, hx5, hF⟩ := bI hF
        refine st_cVi (vs := [.int i3, .int i1]) (st := [.int i2]) h (w_X12_of hx5) mi_X12_of mv_X12_of ml_X12_236 dX12_off_31 kM_0 rfl ⟨Nat.le_of_ble_eq_true rfl, Nat.le_of_ble_eq_true rfl⟩ (Nat.le_of_ble_eq_true rfl) rfl ?_
        refine st_aload_0 h dX12_off_34 ?_
        refine st_iload_3 h dX12_off_35 ?_
        refine st_ic_4 h dX12_off_36 ?_
        obtain ⟨x6, hx6, hF⟩ := bI hF
        refine st_cVi (vs := [.int i3, .int 4]) (st := [.int x5, .int i2]) h (w_X12_of hx6) mi_X12_of mv_X12_of ml_X12_236 dX12_off_37 kM_0 rfl ⟨Nat.le_of_ble_eq_true rfl, Nat.le_of_ble_eq_true rfl⟩ (Nat.le_of_ble_eq_true rfl) rfl ?_
        refine st_isub h dX12_off_40 ?_
        refine st_goto (t := 57) h dX12_off_41 (by decide) ?_
        refine st_iadd h dX12_off_57 ?_
        refine st_istore_2 h dX12_off_58 ?_
        refine st_iinc_3 (y := i3 + 1) h dX12_off_59 (ii_1 _) ?_
        refine st_goto (t := 4) h dX12_off_62 (by decide) ?_
        exact st_sub (ls_s (ls_s (ls_s (ls_s ls_e)))) (ih σ i1 (i2 + (x5 - x6)) (i3 + 1) z hF)
set_option maxRecDepth 100000 in
set_option maxHeartbeats 4000000 in
theorem w_X12_off {l : Launch} {G : Gv} {σ : Sto} {i1 : Int32} {z : Int32} (hF : F_X12_off σ i1 = some z) : Con l yX12_off cX12_off 4 (some .int) 2 G shM νM [.ref 0, .int i1] (ovM σ) (some (.int z)) (ovM σ) := by
  rw [F_X12_off] at hF
  refine Con_enter (own := RX12) 2 (lv := [some (.ref 0), some (.int i1), none, none]) mi_X12_off.2.2.2 rfl (Nat.le_of_ble_eq_true rfl) rfl (fun h hr hin => ?_)
  refine st_ic_0 h dX12_off_0 ?_
  refine st_istore_2 h dX12_off_1 ?_
  refine st_ic_0 h dX12_off_2 ?_
  refine st_istore_3 h dX12_off_3 ?_
  exact st_sub (ls_s (ls_s (ls_s (ls_s ls_e)))) (w_X12_off_4 h hr FU σ i1 0 0 z hF)
set_option maxRecDepth 100000 in
set_option maxHeartbeats 4000000 in
theorem w_X12_all_4 {p : Program} {l : Launch} {e : Env} {s : State} {m : MethodId} {args : Array Value} {below : List Frame} {meth : Method} {c : Code} {G : Gv} (h : Cx p s m args meth c G cX12_all 4 RX12) (hr : meth.sig.returnType = (some .int)) : ∀ (n : Nat) (σ : Sto) (i1 : Int32) (i2 : Int32) (i3 : Int32) (z : Int32), F_X12_all_4 n σ i1 i2 i3 = some z → AW p l e (rmD 5 0 0) s m args below meth c (MQ below (QcR G shM νM (some (.int z)) (ovM σ)) args s 0 0 (gA G)) 0 0 G 4 4 [some (.ref 0), some (.int i1), some (.int i2), some (.int i3)] [] shM νM (ovM σ) := by
  intro n
  induction n with
  | zero => intro σ i1 i2 i3 z hF; cases hF
  | succ n ih =>
    intro σ i1 i2 i3 z hF
    rw [F_X12_all_4] at hF
    refine st_iload_3 h dX12_all_4 ?_
    refine st_aload_0 h dX12_all_5 ?_
    refine gX12_22 h fl_X12_220 dX12_all_6 (congrArg Prod.fst kM_0) ?_
    refine st_icmp_ge (t := 50) h dX12_all_9 (by decide) (fun q1 => ?_) (fun q1 => ?_)
    · have hF := pI q1 hF
      refine st_iload_2 h dX12_all_50 ?_
      cases hF
      exact st_iret h hr dX12_all_51
    · have hF := qI q1 hF
      refine st_iload_2 h dX12_all_12 ?_
      refine st_iload_1 h dX12_all_13 ?_
      refine st_if_eq (t := 31) h dX12_all_14 (by decide) (fun q2 => ?_) (fun q2 => ?_)
      · have hF := pI q2 hF
        refine st_aload_0 h dX12_all_31 ?_
        refine st_iload_3 h dX12_all_32 ?_
        refine st_aload_0 h dX12_all_33 ?_
        refine st_iload_3 h dX12_all_34 ?_
        refine st_ic_1 h dX12_all_35 ?_
        obtain ⟨x1, hx1, hF⟩ := bI hF
        refine st_cVi (vs := [.int i3, .int 1]) (st := [.int i3, .ref 0, .int i2]) h (w_X12_of hx1) mi_X12_of mv_X12_of ml_X12_236 dX12_all_36 kM_0 rfl ⟨Nat.le_of_ble_eq_true rfl, Nat.le_of_ble_eq_true rfl⟩ (Nat.le_of_ble_eq_true rfl) rfl ?_
        obtain ⟨x2, hx2, hF⟩ := bI hF
        refine st_cVi (vs := [.int i3, .int x1]) (st := [.int i2]) h (w_X12_profitAt hx2) mi_X12_profitAt mv_X12_profitAt ml_X12_242 dX12_all_39 kM_0 rfl ⟨Nat.le_of_ble_eq_true rfl, Nat.le_of_ble_eq_true rfl⟩ (Nat.le_of_ble_eq_true rfl) rfl ?_
        refine st_iadd h dX12_all_42 ?_
        refine st_istore_2 h dX12_all_43 ?_
        refine st_iinc_3 (y := i3 + 1) h dX12_all_44 (ii_1 _) ?_
        refine st_goto (t := 4) h dX12_all_47 (by decide) ?_
        exact st_sub (ls_s (ls_s (ls_s (ls_s ls_e)))) (ih σ i1 (i2 + x2) (i3 + 1) z hF)
      · have hF := qI q2 hF
        refine st_aload_0 h dX12_all_17 ?_
        refine st_iload_3 h dX12_all_18 ?_
        refine st_aload_0 h dX12_all_19 ?_
        refine st_iload_3 h dX12_all_20 ?_
        refine st_ic_1 h dX12_all_21 ?_
        obtain ⟨x3, hx3, hF⟩ := bI hF
        refine st_cVi (vs := [.int i3, .int 1]) (st := [.int i3, .ref 0, .int i2]) h (w_X12_of hx3) mi_X12_of mv_X12_of ml_X12_236 dX12_all_22 kM_0 rfl ⟨Nat.le_of_ble_eq_true rfl, Nat.le_of_ble_eq_true rfl⟩ (Nat.le_of_ble_eq_true rfl) rfl ?_
        obtain ⟨x4, hx4, hF⟩ := bI hF
        refine st_cVi (vs := [.int i3, .int x3]) (st := [.int i2]) h (w_X12_goodAt hx4) mi_X12_goodAt mv_X12_goodAt ml_X12_263 dX12_all_25 kM_0 rfl ⟨Nat.le_of_ble_eq_true rfl, Nat.le_of_ble_eq_true rfl⟩ (Nat.le_of_ble_eq_true rfl) rfl ?_
        refine st_goto (t := 42) h dX12_all_28 (by decide) ?_
        refine st_iadd h dX12_all_42 ?_
        refine st_istore_2 h dX12_all_43 ?_
        refine st_iinc_3 (y := i3 + 1) h dX12_all_44 (ii_1 _) ?_
        refine st_goto (t := 4) h dX12_all_47 (by decide) ?_
        exact st_sub (ls_s (ls_s (ls_s (ls_s ls_e)))) (ih σ i1 (i2 + x4) (i3 + 1) z hF)
set_option maxRecDepth 100000 in
set_option maxHeartbeats 4000000 in
theorem w_X12_all {l : Launch} {G : Gv} {σ : Sto} {i1 : Int32} {z : Int32} (hF : F_X12_all σ i1 = some z) : Con l yX12_all cX12_all 4 (some .int) 5 G shM νM [.ref 0, .int i1] (ovM σ) (some (.int z)) (ovM σ) := by
  rw [F_X12_all] at hF
  refine Con_enter (own := RX12) 2 (lv := [some (.ref 0), some (.int i1), none, none]) mi_X12_all.2.2.2 rfl (Nat.le_of_ble_eq_true rfl) rfl (fun h hr hin => ?_)
  refine st_ic_0 h dX12_all_0 ?_
  refine st_istore_2 h dX12_all_1 ?_
  refine st_ic_0 h dX12_all_2 ?_
  refine st_istore_3 h dX12_all_3 ?_
  exact st_sub (ls_s (ls_s (ls_s (ls_s ls_e)))) (w_X12_all_4 h hr FU σ i1 0 0 z hF)
set_option maxRecDepth 100000 in
set_option maxHeartbeats 4000000 in
theorem w_X12_isService {l : Launch} {G : Gv} {σ : Sto} {i1 : Int32} {z : Int32} (hF : F_X12_isService σ i1 = some z) : Con l yX12_isService cX12_isService 2 (some .boolean) 2 G shM νM [.ref 0, .int i1] (ovM σ) (some (.int z)) (ovM σ) := by
  rw [F_X12_isService] at hF
  refine Con_enter (own := RX12) 0 (lv := [some (.ref 0), some (.int i1)]) mi_X12_isService.2.2.2 rfl (Nat.le_of_ble_eq_true rfl) rfl (fun h hr hin => ?_)
  refine st_aload_0 h dX12_isService_0 ?_
  refine gX12_25 h fl_X12_229 dX12_isService_1 (congrArg Prod.fst kM_0) ?_
  refine st_if_eq (t := 25) h dX12_isService_4 (by decide) (fun q1 => ?_) (fun q1 => ?_)
  · have hF := pI q1 hF
    refine st_ic_0 h dX12_isService_25 ?_
    cases hF
    exact st_zret h hr (Or.inl rfl) dX12_isService_26
  · have hF := qI q1 hF
    refine st_iload_1 h dX12_isService_7 ?_
    refine st_ic_0 h dX12_isService_8 ?_
    refine st_aload_0 h dX12_isService_9 ?_
    refine gX12_22 h fl_X12_220 dX12_isService_10 (congrArg Prod.fst kM_0) ?_
    refine st_ic_1 h dX12_isService_13 ?_
    refine st_isub h dX12_isService_14 ?_
    obtain ⟨x1, hx1, hF⟩ := bI hF
    refine st_cSi (vs := [.int i1, .int 0, .int ((σ.1 0 22) - 1)]) (st := []) h (w_X12_in hx1) mi_X12_in ms_X12_in ml_X12_94 dX12_isService_15 rfl ⟨Nat.le_of_ble_eq_true rfl, Nat.le_of_ble_eq_true rfl⟩ (Nat.le_of_ble_eq_true rfl) rfl ?_
    refine st_if_eq (t := 25) h dX12_isService_18 (by decide) (fun q2 => ?_) (fun q2 => ?_)
    · have hF := pI q2 hF
      refine st_ic_0 h dX12_isService_25 ?_
      cases hF
      exact st_zret h hr (Or.inl rfl) dX12_isService_26
    · have hF := qI q2 hF
      refine st_ic_1 h dX12_isService_21 ?_
      refine st_goto (t := 26) h dX12_isService_22 (by decide) ?_
      cases hF
      exact st_zret h hr (Or.inr rfl) dX12_isService_26
set_option maxRecDepth 100000 in
set_option maxHeartbeats 4000000 in
theorem w_X12_isPrice {l : Launch} {G : Gv} {σ : Sto} {i0 : Int32} {z : Int32} (hF : F_X12_isPrice σ i0 = some z) : Con l yX12_isPrice cX12_isPrice 1 (some .boolean) 2 G shM νM [.int i0] (ovM σ) (some (.int z)) (ovM σ) := by
  rw [F_X12_isPrice] at hF
  refine Con_enter (own := RX12) 0 (lv := [some (.int i0)]) mi_X12_isPrice.2.2.2 rfl (Nat.le_of_ble_eq_true rfl) rfl (fun h hr hin => ?_)
  refine st_iload_0 h dX12_isPrice_0 ?_
  refine st_ic_0 h dX12_isPrice_1 ?_
  refine st_bipush (v := 20) h dX12_isPrice_2 (by decide) ?_
  obtain ⟨x1, hx1, hF⟩ := bI hF
  refine st_cSi (vs := [.int i0, .int 0, .int 20]) (st := []) h (w_X12_in hx1) mi_X12_in ms_X12_in ml_X12_94 dX12_isPrice_4 rfl ⟨Nat.le_of_ble_eq_true rfl, Nat.le_of_ble_eq_true rfl⟩ (Nat.le_of_ble_eq_true rfl) rfl ?_
  obtain ⟨g1, hF⟩ := gI hF
  cases hF
  exact st_zret h hr g1 dX12_isPrice_7
set_option maxRecDepth 100000 in
set_option maxHeartbeats 4000000 in
theorem w_X12_about_193 {p : Program} {l : Launch} {e : Env} {s : State} {m : MethodId} {args : Array Value} {below : List Frame} {meth : Method} {c : Code} {G : Gv} (h : Cx p s m args meth c G cX12_about 4 RX12) (hr : meth.sig.returnType = (some .int)) : ∀ (σ : Sto) (e1 : Int32) (z : (Int32 × Sto)), F_X12_about_193 σ e1 = some z → AW p l e (rmD 7 0 0) s m args below meth c (MQ below (QcR G shM νM (some (.int z.1)) (ovM z.2)) args s 0 0 (gA G)) 0 0 G 4 193 [none, none, none, none] [.int e1, .ref 0] shM νM (ovM σ) := by
  intro σ e1 z hF
  rw [F_X12_about_193] at hF
  obtain ⟨x1, hx1, hF⟩ := bI hF
  refine st_cVi (vs := [.int e1]) (st := []) h (w_X12_tells hx1) mi_X12_tells mv_X12_tells ml_X12_233 dX12_about_193 kM_0 rfl ⟨Nat.le_of_ble_eq_true rfl, Nat.le_of_ble_eq_true rfl⟩ (Nat.le_of_ble_eq_true rfl) rfl ?_
  cases hF
  exact st_iret h hr dX12_about_196
set_option maxRecDepth 100000 in
set_option maxHeartbeats 4000000 in
theorem w_X12_about_22 {p : Program} {l : Launch} {e : Env} {s : State} {m : MethodId} {args : Array Value} {below : List Frame} {meth : Method} {c : Code} {G : Gv} (h : Cx p s m args meth c G cX12_about 4 RX12) (hr : meth.sig.returnType = (some .int)) : ∀ (n : Nat) (σ : Sto) (i1 : Int32) (i2 : Int32) (i3 : Int32) (z : (Int32 × Sto)), F_X12_about_22 n σ i1 i2 i3 = some z → AW p l e (rmD 7 0 0) s m args below meth c (MQ below (QcR G shM νM (some (.int z.1)) (ovM z.2)) args s 0 0 (gA G)) 0 0 G 4 22 [some (.ref 0), some (.int i1), some (.int i2), some (.int i3)] [] shM νM (ovM σ) := by
  intro n
  induction n with
  | zero => intro σ i1 i2 i3 z hF; cases hF
  | succ n ih =>
    intro σ i1 i2 i3 z hF
    rw [F_X12_about_22] at hF
    refine st_iload_3 h dX12_about_22 ?_
    refine st_aload_0 h dX12_about_23 ?_
    refine gX12_22 h fl_X12_220 dX12_about_24 (congrArg Prod.fst kM_0) ?_
    refine st_icmp_ge (t := 44) h dX12_about_27 (by decide) (fun q1 => ?_) (fun q1 => ?_)
    · have hF := pI q1 hF
      refine st_iload_1 h dX12_about_44 ?_
      by_cases q2 : i1 = 0
      · have hF := pI q2 hF
        refine st_tableIn (t := 108) h dX12_about_45 (by rw [q2]; decide) (by rw [q2]; decide) (by rw [q2]; rfl) (by decide) ?_
        refine st_aload_0 h dX12_about_108 ?_
        refine st_aload_0 h dX12_about_109 ?_
        refine gX12_22 h fl_X12_220 dX12_about_110 (congrArg Prod.fst kM_0) ?_
        obtain ⟨x1, hx1, hF⟩ := bI hF
        refine st_cVi (vs := [.int (σ.1 0 22)]) (st := []) h (w_X12_tells hx1) mi_X12_tells mv_X12_tells ml_X12_233 dX12_about_113 kM_0 rfl ⟨Nat.le_of_ble_eq_true rfl, Nat.le_of_ble_eq_true rfl⟩ (Nat.le_of_ble_eq_true rfl) rfl ?_
        cases hF
        exact st_iret h hr dX12_about_116
      have hF := qI q2 hF
      by_cases q3 : i1 = 1
      · have hF := pI q3 hF
        refine st_tableIn (t := 117) h dX12_about_45 (by rw [q3]; decide) (by rw [q3]; decide) (by rw [q3]; rfl) (by decide) ?_
        refine st_aload_0 h dX12_about_117 ?_
        refine st_aload_0 h dX12_about_118 ?_
        refine gX12_14 h fl_X12_17 dX12_about_119 (congrArg Prod.fst kM_0) ?_
        refine st_bipush (v := 32) h dX12_about_122 (by decide) ?_
        refine iaM h dX12_about_124 kM_2 (by decide) ?_
        obtain ⟨x2, hx2, hF⟩ := bI hF
        refine st_cVi (vs := [.int (σ.1 2 (ix 32))]) (st := []) h (w_X12_tells hx2) mi_X12_tells mv_X12_tells ml_X12_233 dX12_about_125 kM_0 rfl ⟨Nat.le_of_ble_eq_true rfl, Nat.le_of_ble_eq_true rfl⟩ (Nat.le_of_ble_eq_true rfl) rfl ?_
        cases hF
        exact st_iret h hr dX12_about_128
      have hF := qI q3 hF
      by_cases q4 : i1 = 2
      · have hF := pI q4 hF
        refine st_tableIn (t := 129) h dX12_about_45 (by rw [q4]; decide) (by rw [q4]; decide) (by rw [q4]; rfl) (by decide) ?_
        refine st_aload_0 h dX12_about_129 ?_
        refine st_aload_0 h dX12_about_130 ?_
        obtain ⟨x3, hx3, hF⟩ := bI hF
        refine st_cVi (vs := []) (st := [.ref 0]) h (w_X12_rate hx3) mi_X12_rate mv_X12_rate ml_X12_248 dX12_about_131 kM_0 rfl ⟨Nat.le_of_ble_eq_true rfl, Nat.le_of_ble_eq_true rfl⟩ (Nat.le_of_ble_eq_true rfl) rfl ?_
        obtain ⟨x4, hx4, hF⟩ := bI hF
        refine st_cVi (vs := [.int x3]) (st := []) h (w_X12_tells hx4) mi_X12_tells mv_X12_tells ml_X12_233 dX12_about_134 kM_0 rfl ⟨Nat.le_of_ble_eq_true rfl, Nat.le_of_ble_eq_true rfl⟩ (Nat.le_of_ble_eq_true rfl) rfl ?_
        cases hF
        exact st_iret h hr dX12_about_137
      have hF := qI q4 hF
      by_cases q5 : i1 = 3
      · have hF := pI q5 hF
        refine st_tableIn (t := 138) h dX12_about_45 (by rw [q5]; decide) (by rw [q5]; decide) (by rw [q5]; rfl) (by decide) ?_
        refine st_aload_0 h dX12_about_138 ?_
        refine st_iload_2 h dX12_about_139 ?_
        obtain ⟨x5, hx5, hF⟩ := bI hF
        refine st_cVi (vs := [.int i2]) (st := []) h (w_X12_tells hx5) mi_X12_tells mv_X12_tells ml_X12_233 dX12_about_140 kM_0 rfl ⟨Nat.le_of_ble_eq_true rfl, Nat.le_of_ble_eq_true rfl⟩ (Nat.le_of_ble_eq_true rfl) rfl ?_
        cases hF
        exact st_iret h hr dX12_about_143
      have hF := qI q5 hF
      by_cases q6 : i1 = 4
      · have hF := pI q6 hF
        refine st_tableIn (t := 144) h dX12_about_45 (by rw [q6]; decide) (by rw [q6]; decide) (by rw [q6]; rfl) (by decide) ?_
        refine st_aload_0 h dX12_about_144 ?_
        refine st_aload_0 h dX12_about_145 ?_
        obtain ⟨x6, hx6, hF⟩ := bI hF
        refine st_cVi (vs := []) (st := [.ref 0]) h (w_X12_base hx6) mi_X12_base mv_X12_base ml_X12_251 dX12_about_146 kM_0 rfl ⟨Nat.le_of_ble_eq_true rfl, Nat.le_of_ble_eq_true rfl⟩ (Nat.le_of_ble_eq_true rfl) rfl ?_
        obtain ⟨x7, hx7, hF⟩ := bI hF
        refine st_cVi (vs := [.int x6]) (st := []) h (w_X12_tells hx7) mi_X12_tells mv_X12_tells ml_X12_233 dX12_about_149 kM_0 rfl ⟨Nat.le_of_ble_eq_true rfl, Nat.le_of_ble_eq_true rfl⟩ (Nat.le_of_ble_eq_true rfl) rfl ?_
        cases hF
        exact st_iret h hr dX12_about_152
      have hF := qI q6 hF
      by_cases q7 : i1 = 5
      · have hF := pI q7 hF
        refine st_tableIn (t := 153) h dX12_about_45 (by rw [q7]; decide) (by rw [q7]; decide) (by rw [q7]; rfl) (by decide) ?_
        refine st_aload_0 h dX12_about_153 ?_
        refine st_aload_0 h dX12_about_154 ?_
        obtain ⟨x8, hx8, hF⟩ := bI hF
        refine st_cVi (vs := []) (st := [.ref 0]) h (w_X12_dues hx8) mi_X12_dues mv_X12_dues ml_X12_254 dX12_about_155 kM_0 rfl ⟨Nat.le_of_ble_eq_true rfl, Nat.le_of_ble_eq_true rfl⟩ (Nat.le_of_ble_eq_true rfl) rfl ?_
        obtain ⟨x9, hx9, hF⟩ := bI hF
        refine st_cVi (vs := [.int x8]) (st := []) h (w_X12_tells hx9) mi_X12_tells mv_X12_tells ml_X12_233 dX12_about_158 kM_0 rfl ⟨Nat.le_of_ble_eq_true rfl, Nat.le_of_ble_eq_true rfl⟩ (Nat.le_of_ble_eq_true rfl) rfl ?_
        cases hF
        exact st_iret h hr dX12_about_161
      have hF := qI q7 hF
      by_cases q8 : i1 = 6
      · have hF := pI q8 hF
        refine st_tableIn (t := 162) h dX12_about_45 (by rw [q8]; decide) (by rw [q8]; decide) (by rw [q8]; rfl) (by decide) ?_
        refine st_aload_0 h dX12_about_162 ?_
        refine st_aload_0 h dX12_about_163 ?_
        obtain ⟨x10, hx10, hF⟩ := bI hF
        refine st_cVi (vs := []) (st := [.ref 0]) h (w_X12_allowed hx10) mi_X12_allowed mv_X12_allowed ml_X12_260 dX12_about_164 kM_0 rfl ⟨Nat.le_of_ble_eq_true rfl, Nat.le_of_ble_eq_true rfl⟩ (Nat.le_of_ble_eq_true rfl) rfl ?_
        obtain ⟨x11, hx11, hF⟩ := bI hF
        refine st_cVi (vs := [.int x10]) (st := []) h (w_X12_tells hx11) mi_X12_tells mv_X12_tells ml_X12_233 dX12_about_167 kM_0 rfl ⟨Nat.le_of_ble_eq_true rfl, Nat.le_of_ble_eq_true rfl⟩ (Nat.le_of_ble_eq_true rfl) rfl ?_
        cases hF
        exact st_iret h hr dX12_about_170
      have hF := qI q8 hF
      by_cases q9 : i1 = 7
      · have hF := pI q9 hF
        refine st_tableIn (t := 171) h dX12_about_45 (by rw [q9]; decide) (by rw [q9]; decide) (by rw [q9]; rfl) (by decide) ?_
        refine st_aload_0 h dX12_about_171 ?_
        refine st_aload_0 h dX12_about_172 ?_
        obtain ⟨x12, hx12, hF⟩ := bI hF
        refine st_cVi (vs := []) (st := [.ref 0]) h (w_X12_spent hx12) mi_X12_spent mv_X12_spent ml_X12_257 dX12_about_173 kM_0 rfl ⟨Nat.le_of_ble_eq_true rfl, Nat.le_of_ble_eq_true rfl⟩ (Nat.le_of_ble_eq_true rfl) rfl ?_
        obtain ⟨x13, hx13, hF⟩ := bI hF
        refine st_cVi (vs := [.int x12]) (st := []) h (w_X12_tells hx13) mi_X12_tells mv_X12_tells ml_X12_233 dX12_about_176 kM_0 rfl ⟨Nat.le_of_ble_eq_true rfl, Nat.le_of_ble_eq_true rfl⟩ (Nat.le_of_ble_eq_true rfl) rfl ?_
        cases hF
        exact st_iret h hr dX12_about_179
      have hF := qI q9 hF
      by_cases q10 : i1 = 8
      · have hF := pI q10 hF
        refine st_tableIn (t := 180) h dX12_about_45 (by rw [q10]; decide) (by rw [q10]; decide) (by rw [q10]; rfl) (by decide) ?_
        refine st_aload_0 h dX12_about_180 ?_
        refine st_aload_0 h dX12_about_181 ?_
        obtain ⟨x14, hx14, hF⟩ := bI hF
        refine st_cVi (vs := []) (st := [.ref 0]) h (w_X12_isKept hx14) mi_X12_isKept mv_X12_isKept ml_X12_266 dX12_about_182 kM_0 rfl ⟨Nat.le_of_ble_eq_true rfl, Nat.le_of_ble_eq_true rfl⟩ (Nat.le_of_ble_eq_true rfl) rfl ?_
        refine st_if_eq (t := 192) h dX12_about_185 (by decide) (fun q11 => ?_) (fun q11 => ?_)
        · have hF := pI q11 hF
          refine st_ic_0 h dX12_about_192 ?_
          exact st_sub (ls_n (ls_n (ls_n (ls_n ls_e)))) (w_X12_about_193 h hr σ 0 z hF)
        · have hF := qI q11 hF
          refine st_ic_1 h dX12_about_188 ?_
          refine st_goto (t := 193) h dX12_about_189 (by decide) ?_
          exact st_sub (ls_n (ls_n (ls_n (ls_n ls_e)))) (w_X12_about_193 h hr σ 1 z hF)
      have hF := qI q10 hF
      by_cases q12 : i1 = 9
      · have hF := pI q12 hF
        refine st_tableIn (t := 197) h dX12_about_45 (by rw [q12]; decide) (by rw [q12]; decide) (by rw [q12]; rfl) (by decide) ?_
        refine st_aload_0 h dX12_about_197 ?_
        refine st_aload_0 h dX12_about_198 ?_
        refine gX12_24 h fl_X12_226 dX12_about_199 (congrArg Prod.fst kM_0) ?_
        obtain ⟨x15, hx15, hF⟩ := bI hF
        refine st_cVi (vs := [.int (σ.1 0 24)]) (st := []) h (w_X12_tells hx15) mi_X12_tells mv_X12_tells ml_X12_233 dX12_about_202 kM_0 rfl ⟨Nat.le_of_ble_eq_true rfl, Nat.le_of_ble_eq_true rfl⟩ (Nat.le_of_ble_eq_true rfl) rfl ?_
        cases hF
        exact st_iret h hr dX12_about_205
      have hF := qI q12 hF
      by_cases q13 : i1 = 10
      · have hF := pI q13 hF
        refine st_tableIn (t := 206) h dX12_about_45 (by rw [q13]; decide) (by rw [q13]; decide) (by rw [q13]; rfl) (by decide) ?_
        refine st_aload_0 h dX12_about_206 ?_
        refine st_aload_0 h dX12_about_207 ?_
        refine st_ic_0 h dX12_about_208 ?_
        obtain ⟨x16, hx16, hF⟩ := bI hF
        refine st_cVi (vs := [.int 0]) (st := [.ref 0]) h (w_X12_off hx16) mi_X12_off mv_X12_off ml_X12_269 dX12_about_209 kM_0 rfl ⟨Nat.le_of_ble_eq_true rfl, Nat.le_of_ble_eq_true rfl⟩ (Nat.le_of_ble_eq_true rfl) rfl ?_
        obtain ⟨x17, hx17, hF⟩ := bI hF
        refine st_cVi (vs := [.int x16]) (st := []) h (w_X12_tells hx17) mi_X12_tells mv_X12_tells ml_X12_233 dX12_about_212 kM_0 rfl ⟨Nat.le_of_ble_eq_true rfl, Nat.le_of_ble_eq_true rfl⟩ (Nat.le_of_ble_eq_true rfl) rfl ?_
        cases hF
        exact st_iret h hr dX12_about_215
      have hF := qI q13 hF
      by_cases q14 : i1 = 11
      · have hF := pI q14 hF
        refine st_tableIn (t := 216) h dX12_about_45 (by rw [q14]; decide) (by rw [q14]; decide) (by rw [q14]; rfl) (by decide) ?_
        refine st_aload_0 h dX12_about_216 ?_
        refine st_aload_0 h dX12_about_217 ?_
        refine st_ic_1 h dX12_about_218 ?_
        obtain ⟨x18, hx18, hF⟩ := bI hF
        refine st_cVi (vs := [.int 1]) (st := [.ref 0]) h (w_X12_off hx18) mi_X12_off mv_X12_off ml_X12_269 dX12_about_219 kM_0 rfl ⟨Nat.le_of_ble_eq_true rfl, Nat.le_of_ble_eq_true rfl⟩ (Nat.le_of_ble_eq_true rfl) rfl ?_
        obtain ⟨x19, hx19, hF⟩ := bI hF
        refine st_cVi (vs := [.int x18]) (st := []) h (w_X12_tells hx19) mi_X12_tells mv_X12_tells ml_X12_233 dX12_about_222 kM_0 rfl ⟨Nat.le_of_ble_eq_true rfl, Nat.le_of_ble_eq_true rfl⟩ (Nat.le_of_ble_eq_true rfl) rfl ?_
        cases hF
        exact st_iret h hr dX12_about_225
      have hF := qI q14 hF
      refine st_tableOut (t := 226) h dX12_about_45 (tsw_0_11 q2 q3 q4 q5 q6 q7 q8 q9 q10 q12 q13 q14) (by decide) ?_
      refine st_aload_0 h dX12_about_226 ?_
      refine st_ic_1 h dX12_about_227 ?_
      obtain ⟨x20, hx20, hF⟩ := bI hF
      refine st_cVi (vs := [.int 1]) (st := []) h (w_X12_refused hx20) mi_X12_refused mv_X12_refused ml_X12_213 dX12_about_228 kM_0 rfl ⟨Nat.le_of_ble_eq_true rfl, Nat.le_of_ble_eq_true rfl⟩ (Nat.le_of_ble_eq_true rfl) rfl ?_
      cases hF
      exact st_iret h hr dX12_about_231
    · have hF := qI q1 hF
      refine st_iload_2 h dX12_about_30 ?_
      refine st_aload_0 h dX12_about_31 ?_
      refine st_iload_3 h dX12_about_32 ?_
      obtain ⟨x21, hx21, hF⟩ := bI hF
      refine st_cVi (vs := [.int i3]) (st := [.int i2]) h (w_X12_weight hx21) mi_X12_weight mv_X12_weight ml_X12_245 dX12_about_33 kM_0 rfl ⟨Nat.le_of_ble_eq_true rfl, Nat.le_of_ble_eq_true rfl⟩ (Nat.le_of_ble_eq_true rfl) rfl ?_
      refine st_iadd h dX12_about_36 ?_
      refine st_istore_2 h dX12_about_37 ?_
      refine st_iinc_3 (y := i3 + 1) h dX12_about_38 (ii_1 _) ?_
      refine st_goto (t := 22) h dX12_about_41 (by decide) ?_
      exact st_sub (ls_s (ls_s (ls_s (ls_s ls_e)))) (ih σ i1 (i2 + x21) (i3 + 1) z hF)
set_option maxRecDepth 100000 in
set_option maxHeartbeats 4000000 in
theorem w_X12_about {l : Launch} {G : Gv} {σ : Sto} {i1 : Int32} {z : (Int32 × Sto)} (hF : F_X12_about σ i1 = some z) : Con l yX12_about cX12_about 4 (some .int) 7 G shM νM [.ref 0, .int i1] (ovM σ) (some (.int z.1)) (ovM z.2) := by
  rw [F_X12_about] at hF
  refine Con_enter (own := RX12) 2 (lv := [some (.ref 0), some (.int i1), none, none]) mi_X12_about.2.2.2 rfl (Nat.le_of_ble_eq_true rfl) rfl (fun h hr hin => ?_)
  refine st_aload_0 h dX12_about_0 ?_
  refine st_ic_0 h dX12_about_1 ?_
  obtain ⟨s1, hs1, hF⟩ := swI hF
  refine pX12_0 h fl_X12_73 dX12_about_2 (congrArg Prod.fst kM_0) hs1 ?_
  refine st_aload_0 h dX12_about_5 ?_
  refine gX12_25 h fl_X12_229 dX12_about_6 (congrArg Prod.fst kM_0) ?_
  refine st_if_ne (t := 18) h dX12_about_9 (by decide) (fun q1 => ?_) (fun q1 => ?_)
  · have hF := qI q1 hF
    refine st_ic_0 h dX12_about_18 ?_
    refine st_istore_2 h dX12_about_19 ?_
    refine st_ic_0 h dX12_about_20 ?_
    refine st_istore_3 h dX12_about_21 ?_
    exact st_sub (ls_s (ls_s (ls_s (ls_s ls_e)))) (w_X12_about_22 h hr FU s1 i1 0 0 z hF)
  · have hF := pI q1 hF
    refine st_aload_0 h dX12_about_12 ?_
    refine st_ic_1 h dX12_about_13 ?_
    obtain ⟨x1, hx1, hF⟩ := bI hF
    refine st_cVi (vs := [.int 1]) (st := []) h (w_X12_refused hx1) mi_X12_refused mv_X12_refused ml_X12_213 dX12_about_14 kM_0 rfl ⟨Nat.le_of_ble_eq_true rfl, Nat.le_of_ble_eq_true rfl⟩ (Nat.le_of_ble_eq_true rfl) rfl ?_
    cases hF
    exact st_iret h hr dX12_about_17
set_option maxRecDepth 100000 in
set_option maxHeartbeats 4000000 in
theorem w_X12_service_23 {p : Program} {l : Launch} {e : Env} {s : State} {m : MethodId} {args : Array Value} {below : List Frame} {meth : Method} {c : Code} {G : Gv} (h : Cx p s m args meth c G cX12_service 3 RX12) (hr : meth.sig.returnType = (some .int)) : ∀ (σ : Sto) (z : (Int32 × Sto)), F_X12_service_23 σ  = some z → AW p l e (rmD 4 0 0) s m args below meth c (MQ below (QcR G shM νM (some (.int z.1)) (ovM z.2)) args s 0 0 (gA G)) 0 0 G 3 23 [some (.ref 0), none, none] [] shM νM (ovM σ) := by
  intro σ z hF
  rw [F_X12_service_23] at hF
  refine st_aload_0 h dX12_service_23 ?_
  refine st_ic_1 h dX12_service_24 ?_
  obtain ⟨x1, hx1, hF⟩ := bI hF
  refine st_cVi (vs := [.int 1]) (st := []) h (w_X12_refused hx1) mi_X12_refused mv_X12_refused ml_X12_213 dX12_service_25 kM_0 rfl ⟨Nat.le_of_ble_eq_true rfl, Nat.le_of_ble_eq_true rfl⟩ (Nat.le_of_ble_eq_true rfl) rfl ?_
  cases hF
  exact st_iret h hr dX12_service_28
set_option maxRecDepth 100000 in
set_option maxHeartbeats 4000000 in
theorem w_X12_service_50 {p : Program} {l : Launch} {e : Env} {s : State} {m : MethodId} {args : Array Value} {below : List Frame} {meth : Method} {c : Code} {G : Gv} (h : Cx p s m args meth c G cX12_service 3 RX12) (hr : meth.sig.returnType = (some .int)) : ∀ (σ : Sto) (e1 : Int32) (z : (Int32 × Sto)), F_X12_service_50 σ e1 = some z → AW p l e (rmD 4 0 0) s m args below meth c (MQ below (QcR G shM νM (some (.int z.1)) (ovM z.2)) args s 0 0 (gA G)) 0 0 G 3 50 [none, none, none] [.int e1, .ref 0] shM νM (ovM σ) := by
  intro σ e1 z hF
  rw [F_X12_service_50] at hF
  obtain ⟨x1, hx1, hF⟩ := bI hF
  refine st_cVi (vs := [.int e1]) (st := []) h (w_X12_tells hx1) mi_X12_tells mv_X12_tells ml_X12_233 dX12_service_50 kM_0 rfl ⟨Nat.le_of_ble_eq_true rfl, Nat.le_of_ble_eq_true rfl⟩ (Nat.le_of_ble_eq_true rfl) rfl ?_
  cases hF
  exact st_iret h hr dX12_service_53
set_option maxRecDepth 100000 in
set_option maxHeartbeats 4000000 in
theorem w_X12_service {l : Launch} {G : Gv} {σ : Sto} {i1 : Int32} {i2 : Int32} {z : (Int32 × Sto)} (hF : F_X12_service σ i1 i2 = some z) : Con l yX12_service cX12_service 3 (some .int) 4 G shM νM [.ref 0, .int i1, .int i2] (ovM σ) (some (.int z.1)) (ovM z.2) := by
  rw [F_X12_service] at hF
  refine Con_enter (own := RX12) 0 (lv := [some (.ref 0), some (.int i1), some (.int i2)]) mi_X12_service.2.2.2 rfl (Nat.le_of_ble_eq_true rfl) rfl (fun h hr hin => ?_)
  refine st_aload_0 h dX12_service_0 ?_
  refine st_ic_0 h dX12_service_1 ?_
  obtain ⟨s1, hs1, hF⟩ := swI hF
  refine pX12_0 h fl_X12_73 dX12_service_2 (congrArg Prod.fst kM_0) hs1 ?_
  refine st_aload_0 h dX12_service_5 ?_
  refine st_iload_1 h dX12_service_6 ?_
  obtain ⟨x1, hx1, hF⟩ := bI hF
  refine st_cVi (vs := [.int i1]) (st := []) h (w_X12_isService hx1) mi_X12_isService mv_X12_isService ml_X12_272 dX12_service_7 kM_0 rfl ⟨Nat.le_of_ble_eq_true rfl, Nat.le_of_ble_eq_true rfl⟩ (Nat.le_of_ble_eq_true rfl) rfl ?_
  refine st_if_eq (t := 23) h dX12_service_10 (by decide) (fun q1 => ?_) (fun q1 => ?_)
  · have hF := pI q1 hF
    exact st_sub (ls_s (ls_n (ls_n ls_e))) (w_X12_service_23 h hr s1  z hF)
  · have hF := qI q1 hF
    refine st_iload_2 h dX12_service_13 ?_
    refine st_ic_0 h dX12_service_14 ?_
    refine st_bipush (v := 7) h dX12_service_15 (by decide) ?_
    obtain ⟨x2, hx2, hF⟩ := bI hF
    refine st_cSi (vs := [.int i2, .int 0, .int 7]) (st := []) h (w_X12_in hx2) mi_X12_in ms_X12_in ml_X12_94 dX12_service_17 rfl ⟨Nat.le_of_ble_eq_true rfl, Nat.le_of_ble_eq_true rfl⟩ (Nat.le_of_ble_eq_true rfl) rfl ?_
    refine st_if_ne (t := 29) h dX12_service_20 (by decide) (fun q2 => ?_) (fun q2 => ?_)
    · have hF := qI q2 hF
      refine st_aload_0 h dX12_service_29 ?_
      refine st_iload_2 h dX12_service_30 ?_
      refine st_bipush (v := 7) h dX12_service_31 (by decide) ?_
      refine st_icmp_ne (t := 44) h dX12_service_33 (by decide) (fun q3 => ?_) (fun q3 => ?_)
      · have hF := qI q3 hF
        refine st_aload_0 h dX12_service_44 ?_
        refine st_iload_1 h dX12_service_45 ?_
        refine st_iload_2 h dX12_service_46 ?_
        obtain ⟨x3, hx3, hF⟩ := bI hF
        refine st_cVi (vs := [.int i1, .int i2]) (st := [.ref 0]) h (w_X12_of hx3) mi_X12_of mv_X12_of ml_X12_236 dX12_service_47 kM_0 rfl ⟨Nat.le_of_ble_eq_true rfl, Nat.le_of_ble_eq_true rfl⟩ (Nat.le_of_ble_eq_true rfl) rfl ?_
        exact st_sub (ls_n (ls_n (ls_n ls_e))) (w_X12_service_50 h hr s1 x3 z hF)
      · have hF := pI q3 hF
        refine st_aload_0 h dX12_service_36 ?_
        refine st_iload_1 h dX12_service_37 ?_
        obtain ⟨x4, hx4, hF⟩ := bI hF
        refine st_cVi (vs := [.int i1]) (st := [.ref 0]) h (w_X12_weight hx4) mi_X12_weight mv_X12_weight ml_X12_245 dX12_service_38 kM_0 rfl ⟨Nat.le_of_ble_eq_true rfl, Nat.le_of_ble_eq_true rfl⟩ (Nat.le_of_ble_eq_true rfl) rfl ?_
        refine st_goto (t := 50) h dX12_service_41 (by decide) ?_
        exact st_sub (ls_n (ls_n (ls_n ls_e))) (w_X12_service_50 h hr s1 x4 z hF)
    · have hF := pI q2 hF
      exact st_sub (ls_s (ls_n (ls_n ls_e))) (w_X12_service_23 h hr s1  z hF)
set_option maxRecDepth 100000 in
set_option maxHeartbeats 4000000 in
theorem w_X12_rule_37 {p : Program} {l : Launch} {e : Env} {s : State} {m : MethodId} {args : Array Value} {below : List Frame} {meth : Method} {c : Code} {G : Gv} (h : Cx p s m args meth c G cX12_rule 2 RX12) (hr : meth.sig.returnType = (some .int)) : ∀ (σ : Sto) (z : (Int32 × Sto)), F_X12_rule_37 σ  = some z → AW p l e (rmD 2 0 0) s m args below meth c (MQ below (QcR G shM νM (some (.int z.1)) (ovM z.2)) args s 0 0 (gA G)) 0 0 G 2 37 [some (.ref 0), none] [] shM νM (ovM σ) := by
  intro σ z hF
  rw [F_X12_rule_37] at hF
  refine st_aload_0 h dX12_rule_37 ?_
  refine st_ic_1 h dX12_rule_38 ?_
  obtain ⟨x1, hx1, hF⟩ := bI hF
  refine st_cVi (vs := [.int 1]) (st := []) h (w_X12_refused hx1) mi_X12_refused mv_X12_refused ml_X12_213 dX12_rule_39 kM_0 rfl ⟨Nat.le_of_ble_eq_true rfl, Nat.le_of_ble_eq_true rfl⟩ (Nat.le_of_ble_eq_true rfl) rfl ?_
  cases hF
  exact st_iret h hr dX12_rule_42
set_option maxRecDepth 100000 in
set_option maxHeartbeats 4000000 in
theorem w_X12_rule {l : Launch} {G : Gv} {σ : Sto} {i1 : Int32} {z : (Int32 × Sto)} (hF : F_X12_rule σ i1 = some z) : Con l yX12_rule cX12_rule 2 (some .int) 2 G shM νM [.ref 0, .int i1] (ovM σ) (some (.int z.1)) (ovM z.2) := by
  rw [F_X12_rule] at hF
  refine Con_enter (own := RX12) 0 (lv := [some (.ref 0), some (.int i1)]) mi_X12_rule.2.2.2 rfl (Nat.le_of_ble_eq_true rfl) rfl (fun h hr hin => ?_)
  refine st_aload_0 h dX12_rule_0 ?_
  refine st_ic_0 h dX12_rule_1 ?_
  obtain ⟨s1, hs1, hF⟩ := swI hF
  refine pX12_0 h fl_X12_73 dX12_rule_2 (congrArg Prod.fst kM_0) hs1 ?_
  refine st_aload_0 h dX12_rule_5 ?_
  refine gX12_25 h fl_X12_229 dX12_rule_6 (congrArg Prod.fst kM_0) ?_
  refine st_if_eq (t := 37) h dX12_rule_9 (by decide) (fun q1 => ?_) (fun q1 => ?_)
  · have hF := pI q1 hF
    exact st_sub (ls_s (ls_n ls_e)) (w_X12_rule_37 h hr s1  z hF)
  · have hF := qI q1 hF
    refine st_iload_1 h dX12_rule_12 ?_
    refine st_ic_0 h dX12_rule_13 ?_
    refine st_ic_3 h dX12_rule_14 ?_
    obtain ⟨x1, hx1, hF⟩ := bI hF
    refine st_cSi (vs := [.int i1, .int 0, .int 3]) (st := []) h (w_X12_in hx1) mi_X12_in ms_X12_in ml_X12_94 dX12_rule_15 rfl ⟨Nat.le_of_ble_eq_true rfl, Nat.le_of_ble_eq_true rfl⟩ (Nat.le_of_ble_eq_true rfl) rfl ?_
    refine st_if_eq (t := 37) h dX12_rule_18 (by decide) (fun q2 => ?_) (fun q2 => ?_)
    · have hF := pI q2 hF
      exact st_sub (ls_s (ls_n ls_e)) (w_X12_rule_37 h hr s1  z hF)
    · have hF := qI q2 hF
      refine st_aload_0 h dX12_rule_21 ?_
      refine st_aload_0 h dX12_rule_22 ?_
      refine gX12_14 h fl_X12_17 dX12_rule_23 (congrArg Prod.fst kM_0) ?_
      refine st_bipush (v := 28) h dX12_rule_26 (by decide) ?_
      refine st_iload_1 h dX12_rule_28 ?_
      refine st_iadd h dX12_rule_29 ?_
      obtain ⟨g1, hF⟩ := gI hF
      refine iaM h dX12_rule_30 kM_2 g1 ?_
      obtain ⟨x2, hx2, hF⟩ := bI hF
      refine st_cVi (vs := [.int (s1.1 2 (ix (28 + i1)))]) (st := []) h (w_X12_tells hx2) mi_X12_tells mv_X12_tells ml_X12_233 dX12_rule_31 kM_0 rfl ⟨Nat.le_of_ble_eq_true rfl, Nat.le_of_ble_eq_true rfl⟩ (Nat.le_of_ble_eq_true rfl) rfl ?_
      refine st_goto (t := 42) h dX12_rule_34 (by decide) ?_
      cases hF
      exact st_iret h hr dX12_rule_42
set_option maxRecDepth 100000 in
set_option maxHeartbeats 4000000 in
theorem w_X12_carried_21 {p : Program} {l : Launch} {e : Env} {s : State} {m : MethodId} {args : Array Value} {below : List Frame} {meth : Method} {c : Code} {G : Gv} (h : Cx p s m args meth c G cX12_carried 2 RX12) (hr : meth.sig.returnType = (some .int)) : ∀ (σ : Sto) (z : (Int32 × Sto)), F_X12_carried_21 σ  = some z → AW p l e (rmD 6 0 0) s m args below meth c (MQ below (QcR G shM νM (some (.int z.1)) (ovM z.2)) args s 0 0 (gA G)) 0 0 G 2 21 [some (.ref 0), none] [] shM νM (ovM σ) := by
  intro σ z hF
  rw [F_X12_carried_21] at hF
  refine st_aload_0 h dX12_carried_21 ?_
  refine st_ic_1 h dX12_carried_22 ?_
  obtain ⟨x1, hx1, hF⟩ := bI hF
  refine st_cVi (vs := [.int 1]) (st := []) h (w_X12_refused hx1) mi_X12_refused mv_X12_refused ml_X12_213 dX12_carried_23 kM_0 rfl ⟨Nat.le_of_ble_eq_true rfl, Nat.le_of_ble_eq_true rfl⟩ (Nat.le_of_ble_eq_true rfl) rfl ?_
  cases hF
  exact st_iret h hr dX12_carried_26
set_option maxRecDepth 100000 in
set_option maxHeartbeats 4000000 in
theorem w_X12_carried_51 {p : Program} {l : Launch} {e : Env} {s : State} {m : MethodId} {args : Array Value} {below : List Frame} {meth : Method} {c : Code} {G : Gv} (h : Cx p s m args meth c G cX12_carried 2 RX12) (hr : meth.sig.returnType = (some .int)) : ∀ (σ : Sto) (e1 : Int32) (z : (Int32 × Sto)), F_X12_carried_51 σ e1 = some z → AW p l e (rmD 6 0 0) s m args below meth c (MQ below (QcR G shM νM (some (.int z.1)) (ovM z.2)) args s 0 0 (gA G)) 0 0 G 2 51 [none, none] [.int e1, .ref 0] shM νM (ovM σ) := by
  intro σ e1 z hF
  rw [F_X12_carried_51] at hF
  obtain ⟨x1, hx1, hF⟩ := bI hF
  refine st_cVi (vs := [.int e1]) (st := []) h (w_X12_tells hx1) mi_X12_tells mv_X12_tells ml_X12_233 dX12_carried_51 kM_0 rfl ⟨Nat.le_of_ble_eq_true rfl, Nat.le_of_ble_eq_true rfl⟩ (Nat.le_of_ble_eq_true rfl) rfl ?_
  cases hF
  exact st_iret h hr dX12_carried_54
set_option maxRecDepth 100000 in
set_option maxHeartbeats 4000000 in
theorem w_X12_carried {l : Launch} {G : Gv} {σ : Sto} {i1 : Int32} {z : (Int32 × Sto)} (hF : F_X12_carried σ i1 = some z) : Con l yX12_carried cX12_carried 2 (some .int) 6 G shM νM [.ref 0, .int i1] (ovM σ) (some (.int z.1)) (ovM z.2) := by
  rw [F_X12_carried] at hF
  refine Con_enter (own := RX12) 0 (lv := [some (.ref 0), some (.int i1)]) mi_X12_carried.2.2.2 rfl (Nat.le_of_ble_eq_true rfl) rfl (fun h hr hin => ?_)
  refine st_aload_0 h dX12_carried_0 ?_
  refine st_ic_0 h dX12_carried_1 ?_
  obtain ⟨s1, hs1, hF⟩ := swI hF
  refine pX12_0 h fl_X12_73 dX12_carried_2 (congrArg Prod.fst kM_0) hs1 ?_
  refine st_aload_0 h dX12_carried_5 ?_
  refine gX12_25 h fl_X12_229 dX12_carried_6 (congrArg Prod.fst kM_0) ?_
  refine st_if_eq (t := 21) h dX12_carried_9 (by decide) (fun q1 => ?_) (fun q1 => ?_)
  · have hF := pI q1 hF
    exact st_sub (ls_s (ls_n ls_e)) (w_X12_carried_21 h hr s1  z hF)
  · have hF := qI q1 hF
    refine st_iload_1 h dX12_carried_12 ?_
    refine st_ic_0 h dX12_carried_13 ?_
    refine st_ic_1 h dX12_carried_14 ?_
    obtain ⟨x1, hx1, hF⟩ := bI hF
    refine st_cSi (vs := [.int i1, .int 0, .int 1]) (st := []) h (w_X12_in hx1) mi_X12_in ms_X12_in ml_X12_94 dX12_carried_15 rfl ⟨Nat.le_of_ble_eq_true rfl, Nat.le_of_ble_eq_true rfl⟩ (Nat.le_of_ble_eq_true rfl) rfl ?_
    refine st_if_ne (t := 27) h dX12_carried_18 (by decide) (fun q2 => ?_) (fun q2 => ?_)
    · have hF := qI q2 hF
      refine st_aload_0 h dX12_carried_27 ?_
      refine st_iload_1 h dX12_carried_28 ?_
      refine st_if_ne (t := 42) h dX12_carried_29 (by decide) (fun q3 => ?_) (fun q3 => ?_)
      · have hF := qI q3 hF
        refine st_aload_0 h dX12_carried_42 ?_
        obtain ⟨x2, hx2, hF⟩ := bI hF
        refine st_cVi (vs := []) (st := [.ref 0]) h (w_X12_allowed hx2) mi_X12_allowed mv_X12_allowed ml_X12_260 dX12_carried_43 kM_0 rfl ⟨Nat.le_of_ble_eq_true rfl, Nat.le_of_ble_eq_true rfl⟩ (Nat.le_of_ble_eq_true rfl) rfl ?_
        refine st_aload_0 h dX12_carried_46 ?_
        obtain ⟨x3, hx3, hF⟩ := bI hF
        refine st_cVi (vs := []) (st := [.int x2, .ref 0]) h (w_X12_spent hx3) mi_X12_spent mv_X12_spent ml_X12_257 dX12_carried_47 kM_0 rfl ⟨Nat.le_of_ble_eq_true rfl, Nat.le_of_ble_eq_true rfl⟩ (Nat.le_of_ble_eq_true rfl) rfl ?_
        refine st_isub h dX12_carried_50 ?_
        exact st_sub (ls_n (ls_n ls_e)) (w_X12_carried_51 h hr s1 (x2 - x3) z hF)
      · have hF := pI q3 hF
        refine st_aload_0 h dX12_carried_32 ?_
        refine gX12_14 h fl_X12_17 dX12_carried_33 (congrArg Prod.fst kM_0) ?_
        refine st_bipush (v := 33) h dX12_carried_36 (by decide) ?_
        refine iaM h dX12_carried_38 kM_2 (by decide) ?_
        refine st_goto (t := 51) h dX12_carried_39 (by decide) ?_
        exact st_sub (ls_n (ls_n ls_e)) (w_X12_carried_51 h hr s1 (s1.1 2 (ix 33)) z hF)
    · have hF := pI q2 hF
      exact st_sub (ls_s (ls_n ls_e)) (w_X12_carried_21 h hr s1  z hF)
set_option maxRecDepth 100000 in
set_option maxHeartbeats 4000000 in
theorem w_X12_bought {l : Launch} {G : Gv} {σ : Sto} {i1 : Int32} {i2 : Int32} {z : (Int32 × Sto)} (hF : F_X12_bought σ i1 i2 = some z) : Con l yX12_bought cX12_bought 3 (some .int) 3 G shM νM [.ref 0, .int i1, .int i2] (ovM σ) (some (.int z.1)) (ovM z.2) := by
  rw [F_X12_bought] at hF
  refine Con_enter (own := RX12) 0 (lv := [some (.ref 0), some (.int i1), some (.int i2)]) mi_X12_bought.2.2.2 rfl (Nat.le_of_ble_eq_true rfl) rfl (fun h hr hin => ?_)
  refine st_aload_0 h dX12_bought_0 ?_
  refine st_ic_0 h dX12_bought_1 ?_
  obtain ⟨s1, hs1, hF⟩ := swI hF
  refine pX12_0 h fl_X12_73 dX12_bought_2 (congrArg Prod.fst kM_0) hs1 ?_
  refine st_aload_0 h dX12_bought_5 ?_
  refine st_iload_1 h dX12_bought_6 ?_
  obtain ⟨x1, hx1, hF⟩ := bI hF
  refine st_cVi (vs := [.int i1]) (st := []) h (w_X12_isService hx1) mi_X12_isService mv_X12_isService ml_X12_272 dX12_bought_7 kM_0 rfl ⟨Nat.le_of_ble_eq_true rfl, Nat.le_of_ble_eq_true rfl⟩ (Nat.le_of_ble_eq_true rfl) rfl ?_
  refine st_if_ne (t := 19) h dX12_bought_10 (by decide) (fun q1 => ?_) (fun q1 => ?_)
  · have hF := qI q1 hF
    refine st_iload_2 h dX12_bought_19 ?_
    obtain ⟨x2, hx2, hF⟩ := bI hF
    refine st_cSi (vs := [.int i2]) (st := []) h (w_X12_isPrice hx2) mi_X12_isPrice ms_X12_isPrice ml_X12_275 dX12_bought_20 rfl ⟨Nat.le_of_ble_eq_true rfl, Nat.le_of_ble_eq_true rfl⟩ (Nat.le_of_ble_eq_true rfl) rfl ?_
    refine st_if_eq (t := 39) h dX12_bought_23 (by decide) (fun q2 => ?_) (fun q2 => ?_)
    · have hF := pI q2 hF
      refine st_aload_0 h dX12_bought_39 ?_
      refine st_ic_2 h dX12_bought_40 ?_
      obtain ⟨x3, hx3, hF⟩ := bI hF
      refine st_cVi (vs := [.int 2]) (st := []) h (w_X12_refused hx3) mi_X12_refused mv_X12_refused ml_X12_213 dX12_bought_41 kM_0 rfl ⟨Nat.le_of_ble_eq_true rfl, Nat.le_of_ble_eq_true rfl⟩ (Nat.le_of_ble_eq_true rfl) rfl ?_
      cases hF
      exact st_iret h hr dX12_bought_44
    · have hF := qI q2 hF
      refine st_aload_0 h dX12_bought_26 ?_
      refine st_aload_0 h dX12_bought_27 ?_
      refine st_iload_1 h dX12_bought_28 ?_
      refine st_iload_2 h dX12_bought_29 ?_
      obtain ⟨x4, hx4, hF⟩ := bI hF
      refine st_cVi (vs := [.int i1, .int i2]) (st := [.ref 0]) h (w_X12_boughtAt hx4) mi_X12_boughtAt mv_X12_boughtAt ml_X12_239 dX12_bought_30 kM_0 rfl ⟨Nat.le_of_ble_eq_true rfl, Nat.le_of_ble_eq_true rfl⟩ (Nat.le_of_ble_eq_true rfl) rfl ?_
      obtain ⟨x5, hx5, hF⟩ := bI hF
      refine st_cVi (vs := [.int x4]) (st := []) h (w_X12_tells hx5) mi_X12_tells mv_X12_tells ml_X12_233 dX12_bought_33 kM_0 rfl ⟨Nat.le_of_ble_eq_true rfl, Nat.le_of_ble_eq_true rfl⟩ (Nat.le_of_ble_eq_true rfl) rfl ?_
      refine st_goto (t := 44) h dX12_bought_36 (by decide) ?_
      cases hF
      exact st_iret h hr dX12_bought_44
  · have hF := pI q1 hF
    refine st_aload_0 h dX12_bought_13 ?_
    refine st_ic_1 h dX12_bought_14 ?_
    obtain ⟨x6, hx6, hF⟩ := bI hF
    refine st_cVi (vs := [.int 1]) (st := []) h (w_X12_refused hx6) mi_X12_refused mv_X12_refused ml_X12_213 dX12_bought_15 kM_0 rfl ⟨Nat.le_of_ble_eq_true rfl, Nat.le_of_ble_eq_true rfl⟩ (Nat.le_of_ble_eq_true rfl) rfl ?_
    cases hF
    exact st_iret h hr dX12_bought_18
set_option maxRecDepth 100000 in
set_option maxHeartbeats 4000000 in
theorem w_X12_profit {l : Launch} {G : Gv} {σ : Sto} {i1 : Int32} {i2 : Int32} {z : (Int32 × Sto)} (hF : F_X12_profit σ i1 i2 = some z) : Con l yX12_profit cX12_profit 3 (some .int) 4 G shM νM [.ref 0, .int i1, .int i2] (ovM σ) (some (.int z.1)) (ovM z.2) := by
  rw [F_X12_profit] at hF
  refine Con_enter (own := RX12) 0 (lv := [some (.ref 0), some (.int i1), some (.int i2)]) mi_X12_profit.2.2.2 rfl (Nat.le_of_ble_eq_true rfl) rfl (fun h hr hin => ?_)
  refine st_aload_0 h dX12_profit_0 ?_
  refine st_ic_0 h dX12_profit_1 ?_
  obtain ⟨s1, hs1, hF⟩ := swI hF
  refine pX12_0 h fl_X12_73 dX12_profit_2 (congrArg Prod.fst kM_0) hs1 ?_
  refine st_aload_0 h dX12_profit_5 ?_
  refine st_iload_1 h dX12_profit_6 ?_
  obtain ⟨x1, hx1, hF⟩ := bI hF
  refine st_cVi (vs := [.int i1]) (st := []) h (w_X12_isService hx1) mi_X12_isService mv_X12_isService ml_X12_272 dX12_profit_7 kM_0 rfl ⟨Nat.le_of_ble_eq_true rfl, Nat.le_of_ble_eq_true rfl⟩ (Nat.le_of_ble_eq_true rfl) rfl ?_
  refine st_if_ne (t := 19) h dX12_profit_10 (by decide) (fun q1 => ?_) (fun q1 => ?_)
  · have hF := qI q1 hF
    refine st_iload_2 h dX12_profit_19 ?_
    obtain ⟨x2, hx2, hF⟩ := bI hF
    refine st_cSi (vs := [.int i2]) (st := []) h (w_X12_isPrice hx2) mi_X12_isPrice ms_X12_isPrice ml_X12_275 dX12_profit_20 rfl ⟨Nat.le_of_ble_eq_true rfl, Nat.le_of_ble_eq_true rfl⟩ (Nat.le_of_ble_eq_true rfl) rfl ?_
    refine st_if_eq (t := 39) h dX12_profit_23 (by decide) (fun q2 => ?_) (fun q2 => ?_)
    · have hF := pI q2 hF
      refine st_aload_0 h dX12_profit_39 ?_
      refine st_ic_2 h dX12_profit_40 ?_
      obtain ⟨x3, hx3, hF⟩ := bI hF
      refine st_cVi (vs := [.int 2]) (st := []) h (w_X12_refused hx3) mi_X12_refused mv_X12_refused ml_X12_213 dX12_profit_41 kM_0 rfl ⟨Nat.le_of_ble_eq_true rfl, Nat.le_of_ble_eq_true rfl⟩ (Nat.le_of_ble_eq_true rfl) rfl ?_
      cases hF
      exact st_iret h hr dX12_profit_44
    · have hF := qI q2 hF
      refine st_aload_0 h dX12_profit_26 ?_
      refine st_aload_0 h dX12_profit_27 ?_
      refine st_iload_1 h dX12_profit_28 ?_
      refine st_iload_2 h dX12_profit_29 ?_
      obtain ⟨x4, hx4, hF⟩ := bI hF
      refine st_cVi (vs := [.int i1, .int i2]) (st := [.ref 0]) h (w_X12_profitAt hx4) mi_X12_profitAt mv_X12_profitAt ml_X12_242 dX12_profit_30 kM_0 rfl ⟨Nat.le_of_ble_eq_true rfl, Nat.le_of_ble_eq_true rfl⟩ (Nat.le_of_ble_eq_true rfl) rfl ?_
      obtain ⟨x5, hx5, hF⟩ := bI hF
      refine st_cVi (vs := [.int x4]) (st := []) h (w_X12_tells hx5) mi_X12_tells mv_X12_tells ml_X12_233 dX12_profit_33 kM_0 rfl ⟨Nat.le_of_ble_eq_true rfl, Nat.le_of_ble_eq_true rfl⟩ (Nat.le_of_ble_eq_true rfl) rfl ?_
      refine st_goto (t := 44) h dX12_profit_36 (by decide) ?_
      cases hF
      exact st_iret h hr dX12_profit_44
  · have hF := pI q1 hF
    refine st_aload_0 h dX12_profit_13 ?_
    refine st_ic_1 h dX12_profit_14 ?_
    obtain ⟨x6, hx6, hF⟩ := bI hF
    refine st_cVi (vs := [.int 1]) (st := []) h (w_X12_refused hx6) mi_X12_refused mv_X12_refused ml_X12_213 dX12_profit_15 kM_0 rfl ⟨Nat.le_of_ble_eq_true rfl, Nat.le_of_ble_eq_true rfl⟩ (Nat.le_of_ble_eq_true rfl) rfl ?_
    cases hF
    exact st_iret h hr dX12_profit_18
set_option maxRecDepth 100000 in
set_option maxHeartbeats 4000000 in
theorem w_X12_good {l : Launch} {G : Gv} {σ : Sto} {i1 : Int32} {i2 : Int32} {z : (Int32 × Sto)} (hF : F_X12_good σ i1 i2 = some z) : Con l yX12_good cX12_good 3 (some .int) 5 G shM νM [.ref 0, .int i1, .int i2] (ovM σ) (some (.int z.1)) (ovM z.2) := by
  rw [F_X12_good] at hF
  refine Con_enter (own := RX12) 0 (lv := [some (.ref 0), some (.int i1), some (.int i2)]) mi_X12_good.2.2.2 rfl (Nat.le_of_ble_eq_true rfl) rfl (fun h hr hin => ?_)
  refine st_aload_0 h dX12_good_0 ?_
  refine st_ic_0 h dX12_good_1 ?_
  obtain ⟨s1, hs1, hF⟩ := swI hF
  refine pX12_0 h fl_X12_73 dX12_good_2 (congrArg Prod.fst kM_0) hs1 ?_
  refine st_aload_0 h dX12_good_5 ?_
  refine st_iload_1 h dX12_good_6 ?_
  obtain ⟨x1, hx1, hF⟩ := bI hF
  refine st_cVi (vs := [.int i1]) (st := []) h (w_X12_isService hx1) mi_X12_isService mv_X12_isService ml_X12_272 dX12_good_7 kM_0 rfl ⟨Nat.le_of_ble_eq_true rfl, Nat.le_of_ble_eq_true rfl⟩ (Nat.le_of_ble_eq_true rfl) rfl ?_
  refine st_if_ne (t := 19) h dX12_good_10 (by decide) (fun q1 => ?_) (fun q1 => ?_)
  · have hF := qI q1 hF
    refine st_iload_2 h dX12_good_19 ?_
    obtain ⟨x2, hx2, hF⟩ := bI hF
    refine st_cSi (vs := [.int i2]) (st := []) h (w_X12_isPrice hx2) mi_X12_isPrice ms_X12_isPrice ml_X12_275 dX12_good_20 rfl ⟨Nat.le_of_ble_eq_true rfl, Nat.le_of_ble_eq_true rfl⟩ (Nat.le_of_ble_eq_true rfl) rfl ?_
    refine st_if_eq (t := 39) h dX12_good_23 (by decide) (fun q2 => ?_) (fun q2 => ?_)
    · have hF := pI q2 hF
      refine st_aload_0 h dX12_good_39 ?_
      refine st_ic_2 h dX12_good_40 ?_
      obtain ⟨x3, hx3, hF⟩ := bI hF
      refine st_cVi (vs := [.int 2]) (st := []) h (w_X12_refused hx3) mi_X12_refused mv_X12_refused ml_X12_213 dX12_good_41 kM_0 rfl ⟨Nat.le_of_ble_eq_true rfl, Nat.le_of_ble_eq_true rfl⟩ (Nat.le_of_ble_eq_true rfl) rfl ?_
      cases hF
      exact st_iret h hr dX12_good_44
    · have hF := qI q2 hF
      refine st_aload_0 h dX12_good_26 ?_
      refine st_aload_0 h dX12_good_27 ?_
      refine st_iload_1 h dX12_good_28 ?_
      refine st_iload_2 h dX12_good_29 ?_
      obtain ⟨x4, hx4, hF⟩ := bI hF
      refine st_cVi (vs := [.int i1, .int i2]) (st := [.ref 0]) h (w_X12_goodAt hx4) mi_X12_goodAt mv_X12_goodAt ml_X12_263 dX12_good_30 kM_0 rfl ⟨Nat.le_of_ble_eq_true rfl, Nat.le_of_ble_eq_true rfl⟩ (Nat.le_of_ble_eq_true rfl) rfl ?_
      obtain ⟨x5, hx5, hF⟩ := bI hF
      refine st_cVi (vs := [.int x4]) (st := []) h (w_X12_tells hx5) mi_X12_tells mv_X12_tells ml_X12_233 dX12_good_33 kM_0 rfl ⟨Nat.le_of_ble_eq_true rfl, Nat.le_of_ble_eq_true rfl⟩ (Nat.le_of_ble_eq_true rfl) rfl ?_
      refine st_goto (t := 44) h dX12_good_36 (by decide) ?_
      cases hF
      exact st_iret h hr dX12_good_44
  · have hF := pI q1 hF
    refine st_aload_0 h dX12_good_13 ?_
    refine st_ic_1 h dX12_good_14 ?_
    obtain ⟨x6, hx6, hF⟩ := bI hF
    refine st_cVi (vs := [.int 1]) (st := []) h (w_X12_refused hx6) mi_X12_refused mv_X12_refused ml_X12_213 dX12_good_15 kM_0 rfl ⟨Nat.le_of_ble_eq_true rfl, Nat.le_of_ble_eq_true rfl⟩ (Nat.le_of_ble_eq_true rfl) rfl ?_
    cases hF
    exact st_iret h hr dX12_good_18
set_option maxRecDepth 100000 in
set_option maxHeartbeats 4000000 in
theorem w_X12_isKeptBy {l : Launch} {G : Gv} {σ : Sto} {i1 : Int32} {i2 : Int32} {z : Int32} (hF : F_X12_isKeptBy σ i1 i2 = some z) : Con l yX12_isKeptBy cX12_isKeptBy 4 (some .boolean) 6 G shM νM [.ref 0, .int i1, .int i2] (ovM σ) (some (.int z)) (ovM σ) := by
  rw [F_X12_isKeptBy] at hF
  refine Con_enter (own := RX12) 1 (lv := [some (.ref 0), some (.int i1), some (.int i2), none]) mi_X12_isKeptBy.2.2.2 rfl (Nat.le_of_ble_eq_true rfl) rfl (fun h hr hin => ?_)
  refine st_aload_0 h dX12_isKeptBy_0 ?_
  obtain ⟨x1, hx1, hF⟩ := bI hF
  refine st_cVi (vs := []) (st := []) h (w_X12_spent hx1) mi_X12_spent mv_X12_spent ml_X12_257 dX12_isKeptBy_1 kM_0 rfl ⟨Nat.le_of_ble_eq_true rfl, Nat.le_of_ble_eq_true rfl⟩ (Nat.le_of_ble_eq_true rfl) rfl ?_
  refine st_iload_2 h dX12_isKeptBy_4 ?_
  refine st_aload_0 h dX12_isKeptBy_5 ?_
  refine st_iload_1 h dX12_isKeptBy_6 ?_
  refine st_ic_1 h dX12_isKeptBy_7 ?_
  obtain ⟨x2, hx2, hF⟩ := bI hF
  refine st_cVi (vs := [.int i1, .int 1]) (st := [.int i2, .int x1]) h (w_X12_of hx2) mi_X12_of mv_X12_of ml_X12_236 dX12_isKeptBy_8 kM_0 rfl ⟨Nat.le_of_ble_eq_true rfl, Nat.le_of_ble_eq_true rfl⟩ (Nat.le_of_ble_eq_true rfl) rfl ?_
  refine st_isub h dX12_isKeptBy_11 ?_
  refine st_aload_0 h dX12_isKeptBy_12 ?_
  refine st_iload_1 h dX12_isKeptBy_13 ?_
  obtain ⟨x3, hx3, hF⟩ := bI hF
  refine st_cVi (vs := [.int i1]) (st := [.int (i2 - x2), .int x1]) h (w_X12_weight hx3) mi_X12_weight mv_X12_weight ml_X12_245 dX12_isKeptBy_14 kM_0 rfl ⟨Nat.le_of_ble_eq_true rfl, Nat.le_of_ble_eq_true rfl⟩ (Nat.le_of_ble_eq_true rfl) rfl ?_
  refine st_imul h dX12_isKeptBy_17 ?_
  refine st_iadd h dX12_isKeptBy_18 ?_
  refine st_istore_3 h dX12_isKeptBy_19 ?_
  refine st_iload_3 h dX12_isKeptBy_20 ?_
  refine st_aload_0 h dX12_isKeptBy_21 ?_
  obtain ⟨x4, hx4, hF⟩ := bI hF
  refine st_cVi (vs := []) (st := [.int (x1 + ((i2 - x2) * x3))]) h (w_X12_allowed hx4) mi_X12_allowed mv_X12_allowed ml_X12_260 dX12_isKeptBy_22 kM_0 rfl ⟨Nat.le_of_ble_eq_true rfl, Nat.le_of_ble_eq_true rfl⟩ (Nat.le_of_ble_eq_true rfl) rfl ?_
  refine st_icmp_gt (t := 32) h dX12_isKeptBy_25 (by decide) (fun q1 => ?_) (fun q1 => ?_)
  · have hF := pI q1 hF
    refine st_ic_0 h dX12_isKeptBy_32 ?_
    cases hF
    exact st_zret h hr (Or.inl rfl) dX12_isKeptBy_33
  · have hF := qI q1 hF
    refine st_ic_1 h dX12_isKeptBy_28 ?_
    refine st_goto (t := 33) h dX12_isKeptBy_29 (by decide) ?_
    cases hF
    exact st_zret h hr (Or.inr rfl) dX12_isKeptBy_33
set_option maxRecDepth 100000 in
set_option maxHeartbeats 4000000 in
theorem w_X12_most_52 {p : Program} {l : Launch} {e : Env} {s : State} {m : MethodId} {args : Array Value} {below : List Frame} {meth : Method} {c : Code} {G : Gv} (h : Cx p s m args meth c G cX12_most 3 RX12) (hr : meth.sig.returnType = (some .int)) : ∀ (σ : Sto) (e1 : Int32) (z : (Int32 × Sto)), F_X12_most_52 σ e1 = some z → AW p l e (rmD 7 0 0) s m args below meth c (MQ below (QcR G shM νM (some (.int z.1)) (ovM z.2)) args s 0 0 (gA G)) 0 0 G 3 52 [none, none, none] [.int e1, .ref 0] shM νM (ovM σ) := by
  intro σ e1 z hF
  rw [F_X12_most_52] at hF
  obtain ⟨x1, hx1, hF⟩ := bI hF
  refine st_cVi (vs := [.int e1]) (st := []) h (w_X12_tells hx1) mi_X12_tells mv_X12_tells ml_X12_233 dX12_most_52 kM_0 rfl ⟨Nat.le_of_ble_eq_true rfl, Nat.le_of_ble_eq_true rfl⟩ (Nat.le_of_ble_eq_true rfl) rfl ?_
  cases hF
  exact st_iret h hr dX12_most_55
set_option maxRecDepth 100000 in
set_option maxHeartbeats 4000000 in
theorem w_X12_most_41 {p : Program} {l : Launch} {e : Env} {s : State} {m : MethodId} {args : Array Value} {below : List Frame} {meth : Method} {c : Code} {G : Gv} (h : Cx p s m args meth c G cX12_most 3 RX12) (hr : meth.sig.returnType = (some .int)) : ∀ (σ : Sto) (i2 : Int32) (z : (Int32 × Sto)), F_X12_most_41 σ i2 = some z → AW p l e (rmD 7 0 0) s m args below meth c (MQ below (QcR G shM νM (some (.int z.1)) (ovM z.2)) args s 0 0 (gA G)) 0 0 G 3 41 [some (.ref 0), none, some (.int i2)] [] shM νM (ovM σ) := by
  intro σ i2 z hF
  rw [F_X12_most_41] at hF
  refine st_aload_0 h dX12_most_41 ?_
  refine st_iload_2 h dX12_most_42 ?_
  refine st_if_ge (t := 51) h dX12_most_43 (by decide) (fun q1 => ?_) (fun q1 => ?_)
  · have hF := pI q1 hF
    refine st_iload_2 h dX12_most_51 ?_
    exact st_sub (ls_n (ls_n (ls_n ls_e))) (w_X12_most_52 h hr σ i2 z hF)
  · have hF := qI q1 hF
    refine st_bipush (v := (-2)) h dX12_most_46 (by decide) ?_
    refine st_goto (t := 52) h dX12_most_48 (by decide) ?_
    exact st_sub (ls_n (ls_n (ls_n ls_e))) (w_X12_most_52 h hr σ (-2) z hF)
set_option maxRecDepth 100000 in
set_option maxHeartbeats 4000000 in
theorem w_X12_most_22 {p : Program} {l : Launch} {e : Env} {s : State} {m : MethodId} {args : Array Value} {below : List Frame} {meth : Method} {c : Code} {G : Gv} (h : Cx p s m args meth c G cX12_most 3 RX12) (hr : meth.sig.returnType = (some .int)) : ∀ (n : Nat) (σ : Sto) (i1 : Int32) (i2 : Int32) (z : (Int32 × Sto)), F_X12_most_22 n σ i1 i2 = some z → AW p l e (rmD 7 0 0) s m args below meth c (MQ below (QcR G shM νM (some (.int z.1)) (ovM z.2)) args s 0 0 (gA G)) 0 0 G 3 22 [some (.ref 0), some (.int i1), some (.int i2)] [] shM νM (ovM σ) := by
  intro n
  induction n with
  | zero => intro σ i1 i2 z hF; cases hF
  | succ n ih =>
    intro σ i1 i2 z hF
    rw [F_X12_most_22] at hF
    refine st_iload_2 h dX12_most_22 ?_
    refine st_if_lt (t := 41) h dX12_most_23 (by decide) (fun q1 => ?_) (fun q1 => ?_)
    · have hF := pI q1 hF
      exact st_sub (ls_s (ls_n (ls_s ls_e))) (w_X12_most_41 h hr σ i2 z hF)
    · have hF := qI q1 hF
      refine st_aload_0 h dX12_most_26 ?_
      refine st_iload_1 h dX12_most_27 ?_
      refine st_iload_2 h dX12_most_28 ?_
      obtain ⟨x1, hx1, hF⟩ := bI hF
      refine st_cVi (vs := [.int i1, .int i2]) (st := []) h (w_X12_isKeptBy hx1) mi_X12_isKeptBy mv_X12_isKeptBy ml_X12_278 dX12_most_29 kM_0 rfl ⟨Nat.le_of_ble_eq_true rfl, Nat.le_of_ble_eq_true rfl⟩ (Nat.le_of_ble_eq_true rfl) rfl ?_
      refine st_if_ne (t := 41) h dX12_most_32 (by decide) (fun q2 => ?_) (fun q2 => ?_)
      · have hF := qI q2 hF
        exact st_sub (ls_s (ls_n (ls_s ls_e))) (w_X12_most_41 h hr σ i2 z hF)
      · have hF := pI q2 hF
        refine st_iinc_2 (y := i2 + (-1)) h dX12_most_35 (ii_m1 _) ?_
        refine st_goto (t := 22) h dX12_most_38 (by decide) ?_
        exact st_sub (ls_s (ls_s (ls_s ls_e))) (ih σ i1 (i2 + (-1)) z hF)
set_option maxRecDepth 100000 in
set_option maxHeartbeats 4000000 in
theorem w_X12_most {l : Launch} {G : Gv} {σ : Sto} {i1 : Int32} {z : (Int32 × Sto)} (hF : F_X12_most σ i1 = some z) : Con l yX12_most cX12_most 3 (some .int) 7 G shM νM [.ref 0, .int i1] (ovM σ) (some (.int z.1)) (ovM z.2) := by
  rw [F_X12_most] at hF
  refine Con_enter (own := RX12) 1 (lv := [some (.ref 0), some (.int i1), none]) mi_X12_most.2.2.2 rfl (Nat.le_of_ble_eq_true rfl) rfl (fun h hr hin => ?_)
  refine st_aload_0 h dX12_most_0 ?_
  refine st_ic_0 h dX12_most_1 ?_
  obtain ⟨s1, hs1, hF⟩ := swI hF
  refine pX12_0 h fl_X12_73 dX12_most_2 (congrArg Prod.fst kM_0) hs1 ?_
  refine st_aload_0 h dX12_most_5 ?_
  refine st_iload_1 h dX12_most_6 ?_
  obtain ⟨x1, hx1, hF⟩ := bI hF
  refine st_cVi (vs := [.int i1]) (st := []) h (w_X12_isService hx1) mi_X12_isService mv_X12_isService ml_X12_272 dX12_most_7 kM_0 rfl ⟨Nat.le_of_ble_eq_true rfl, Nat.le_of_ble_eq_true rfl⟩ (Nat.le_of_ble_eq_true rfl) rfl ?_
  refine st_if_ne (t := 19) h dX12_most_10 (by decide) (fun q1 => ?_) (fun q1 => ?_)
  · have hF := qI q1 hF
    refine st_bipush (v := 20) h dX12_most_19 (by decide) ?_
    refine st_istore_2 h dX12_most_21 ?_
    exact st_sub (ls_s (ls_s (ls_s ls_e))) (w_X12_most_22 h hr FU s1 i1 20 z hF)
  · have hF := pI q1 hF
    refine st_aload_0 h dX12_most_13 ?_
    refine st_ic_1 h dX12_most_14 ?_
    obtain ⟨x2, hx2, hF⟩ := bI hF
    refine st_cVi (vs := [.int 1]) (st := []) h (w_X12_refused hx2) mi_X12_refused mv_X12_refused ml_X12_213 dX12_most_15 kM_0 rfl ⟨Nat.le_of_ble_eq_true rfl, Nat.le_of_ble_eq_true rfl⟩ (Nat.le_of_ble_eq_true rfl) rfl ?_
    cases hF
    exact st_iret h hr dX12_most_18
set_option maxRecDepth 100000 in
set_option maxHeartbeats 4000000 in
theorem w_X12_free_23 {p : Program} {l : Launch} {e : Env} {s : State} {m : MethodId} {args : Array Value} {below : List Frame} {meth : Method} {c : Code} {G : Gv} (h : Cx p s m args meth c G cX12_free 4 RX12) (hr : meth.sig.returnType = (some .int)) : ∀ (n : Nat) (σ : Sto) (i1 : Int32) (i2 : Int32) (i3 : Int32) (z : (Int32 × Sto)), F_X12_free_23 n σ i1 i2 i3 = some z → AW p l e (rmD 4 0 0) s m args below meth c (MQ below (QcR G shM νM (some (.int z.1)) (ovM z.2)) args s 0 0 (gA G)) 0 0 G 4 23 [some (.ref 0), some (.int i1), some (.int i2), some (.int i3)] [] shM νM (ovM σ) := by
  intro n
  induction n with
  | zero => intro σ i1 i2 i3 z hF; cases hF
  | succ n ih =>
    intro σ i1 i2 i3 z hF
    rw [F_X12_free_23] at hF
    refine st_iload_3 h dX12_free_23 ?_
    refine st_bipush (v := 20) h dX12_free_24 (by decide) ?_
    refine st_icmp_gt (t := 52) h dX12_free_26 (by decide) (fun q1 => ?_) (fun q1 => ?_)
    · have hF := pI q1 hF
      refine st_aload_0 h dX12_free_52 ?_
      refine st_iload_2 h dX12_free_53 ?_
      obtain ⟨x1, hx1, hF⟩ := bI hF
      refine st_cVi (vs := [.int i2]) (st := []) h (w_X12_tells hx1) mi_X12_tells mv_X12_tells ml_X12_233 dX12_free_54 kM_0 rfl ⟨Nat.le_of_ble_eq_true rfl, Nat.le_of_ble_eq_true rfl⟩ (Nat.le_of_ble_eq_true rfl) rfl ?_
      cases hF
      exact st_iret h hr dX12_free_57
    · have hF := qI q1 hF
      refine st_aload_0 h dX12_free_29 ?_
      refine st_iload_1 h dX12_free_30 ?_
      refine st_iload_3 h dX12_free_31 ?_
      obtain ⟨x2, hx2, hF⟩ := bI hF
      refine st_cVi (vs := [.int i1, .int i3]) (st := []) h (w_X12_profitAt hx2) mi_X12_profitAt mv_X12_profitAt ml_X12_242 dX12_free_32 kM_0 rfl ⟨Nat.le_of_ble_eq_true rfl, Nat.le_of_ble_eq_true rfl⟩ (Nat.le_of_ble_eq_true rfl) rfl ?_
      refine st_aload_0 h dX12_free_35 ?_
      refine st_iload_1 h dX12_free_36 ?_
      refine st_iload_2 h dX12_free_37 ?_
      obtain ⟨x3, hx3, hF⟩ := bI hF
      refine st_cVi (vs := [.int i1, .int i2]) (st := [.int x2]) h (w_X12_profitAt hx3) mi_X12_profitAt mv_X12_profitAt ml_X12_242 dX12_free_38 kM_0 rfl ⟨Nat.le_of_ble_eq_true rfl, Nat.le_of_ble_eq_true rfl⟩ (Nat.le_of_ble_eq_true rfl) rfl ?_
      refine st_icmp_le (t := 46) h dX12_free_41 (by decide) (fun q2 => ?_) (fun q2 => ?_)
      · have hF := pI q2 hF
        refine st_iinc_3 (y := i3 + 1) h dX12_free_46 (ii_1 _) ?_
        refine st_goto (t := 23) h dX12_free_49 (by decide) ?_
        exact st_sub (ls_s (ls_s (ls_s (ls_s ls_e)))) (ih σ i1 i2 (i3 + 1) z hF)
      · have hF := qI q2 hF
        refine st_iload_3 h dX12_free_44 ?_
        refine st_istore_2 h dX12_free_45 ?_
        refine st_iinc_3 (y := i3 + 1) h dX12_free_46 (ii_1 _) ?_
        refine st_goto (t := 23) h dX12_free_49 (by decide) ?_
        exact st_sub (ls_s (ls_s (ls_s (ls_s ls_e)))) (ih σ i1 i3 (i3 + 1) z hF)
set_option maxRecDepth 100000 in
set_option maxHeartbeats 4000000 in
theorem w_X12_free {l : Launch} {G : Gv} {σ : Sto} {i1 : Int32} {z : (Int32 × Sto)} (hF : F_X12_free σ i1 = some z) : Con l yX12_free cX12_free 4 (some .int) 4 G shM νM [.ref 0, .int i1] (ovM σ) (some (.int z.1)) (ovM z.2) := by
  rw [F_X12_free] at hF
  refine Con_enter (own := RX12) 2 (lv := [some (.ref 0), some (.int i1), none, none]) mi_X12_free.2.2.2 rfl (Nat.le_of_ble_eq_true rfl) rfl (fun h hr hin => ?_)
  refine st_aload_0 h dX12_free_0 ?_
  refine st_ic_0 h dX12_free_1 ?_
  obtain ⟨s1, hs1, hF⟩ := swI hF
  refine pX12_0 h fl_X12_73 dX12_free_2 (congrArg Prod.fst kM_0) hs1 ?_
  refine st_aload_0 h dX12_free_5 ?_
  refine st_iload_1 h dX12_free_6 ?_
  obtain ⟨x1, hx1, hF⟩ := bI hF
  refine st_cVi (vs := [.int i1]) (st := []) h (w_X12_isService hx1) mi_X12_isService mv_X12_isService ml_X12_272 dX12_free_7 kM_0 rfl ⟨Nat.le_of_ble_eq_true rfl, Nat.le_of_ble_eq_true rfl⟩ (Nat.le_of_ble_eq_true rfl) rfl ?_
  refine st_if_ne (t := 19) h dX12_free_10 (by decide) (fun q1 => ?_) (fun q1 => ?_)
  · have hF := qI q1 hF
    refine st_ic_0 h dX12_free_19 ?_
    refine st_istore_2 h dX12_free_20 ?_
    refine st_ic_1 h dX12_free_21 ?_
    refine st_istore_3 h dX12_free_22 ?_
    exact st_sub (ls_s (ls_s (ls_s (ls_s ls_e)))) (w_X12_free_23 h hr FU s1 i1 0 1 z hF)
  · have hF := pI q1 hF
    refine st_aload_0 h dX12_free_13 ?_
    refine st_ic_1 h dX12_free_14 ?_
    obtain ⟨x2, hx2, hF⟩ := bI hF
    refine st_cVi (vs := [.int 1]) (st := []) h (w_X12_refused hx2) mi_X12_refused mv_X12_refused ml_X12_213 dX12_free_15 kM_0 rfl ⟨Nat.le_of_ble_eq_true rfl, Nat.le_of_ble_eq_true rfl⟩ (Nat.le_of_ble_eq_true rfl) rfl ?_
    cases hF
    exact st_iret h hr dX12_free_18
set_option maxRecDepth 100000 in
set_option maxHeartbeats 4000000 in
theorem w_X12_freely_23 {p : Program} {l : Launch} {e : Env} {s : State} {m : MethodId} {args : Array Value} {below : List Frame} {meth : Method} {c : Code} {G : Gv} (h : Cx p s m args meth c G cX12_freely 4 RX12) (hr : meth.sig.returnType = (some .int)) : ∀ (n : Nat) (σ : Sto) (i1 : Int32) (i2 : Int32) (i3 : Int32) (z : (Int32 × Sto)), F_X12_freely_23 n σ i1 i2 i3 = some z → AW p l e (rmD 7 0 0) s m args below meth c (MQ below (QcR G shM νM (some (.int z.1)) (ovM z.2)) args s 0 0 (gA G)) 0 0 G 4 23 [some (.ref 0), some (.int i1), some (.int i2), some (.int i3)] [] shM νM (ovM σ) := by
  intro n
  induction n with
  | zero => intro σ i1 i2 i3 z hF; cases hF
  | succ n ih =>
    intro σ i1 i2 i3 z hF
    rw [F_X12_freely_23] at hF
    refine st_iload_3 h dX12_freely_23 ?_
    refine st_bipush (v := 20) h dX12_freely_24 (by decide) ?_
    refine st_icmp_gt (t := 72) h dX12_freely_26 (by decide) (fun q1 => ?_) (fun q1 => ?_)
    · have hF := pI q1 hF
      refine st_aload_0 h dX12_freely_72 ?_
      refine st_iload_2 h dX12_freely_73 ?_
      obtain ⟨x1, hx1, hF⟩ := bI hF
      refine st_cVi (vs := [.int i2]) (st := []) h (w_X12_tells hx1) mi_X12_tells mv_X12_tells ml_X12_233 dX12_freely_74 kM_0 rfl ⟨Nat.le_of_ble_eq_true rfl, Nat.le_of_ble_eq_true rfl⟩ (Nat.le_of_ble_eq_true rfl) rfl ?_
      cases hF
      exact st_iret h hr dX12_freely_77
    · have hF := qI q1 hF
      refine st_iload_2 h dX12_freely_29 ?_
      refine st_aload_0 h dX12_freely_30 ?_
      refine st_iload_1 h dX12_freely_31 ?_
      refine st_iload_3 h dX12_freely_32 ?_
      obtain ⟨x2, hx2, hF⟩ := bI hF
      refine st_cVi (vs := [.int i1, .int i3]) (st := [.int i2]) h (w_X12_profitAt hx2) mi_X12_profitAt mv_X12_profitAt ml_X12_242 dX12_freely_33 kM_0 rfl ⟨Nat.le_of_ble_eq_true rfl, Nat.le_of_ble_eq_true rfl⟩ (Nat.le_of_ble_eq_true rfl) rfl ?_
      refine st_aload_0 h dX12_freely_36 ?_
      refine st_iload_1 h dX12_freely_37 ?_
      refine st_aload_0 h dX12_freely_38 ?_
      refine st_iload_1 h dX12_freely_39 ?_
      refine st_ic_1 h dX12_freely_40 ?_
      obtain ⟨x3, hx3, hF⟩ := bI hF
      refine st_cVi (vs := [.int i1, .int 1]) (st := [.int i1, .ref 0, .int x2, .int i2]) h (w_X12_of hx3) mi_X12_of mv_X12_of ml_X12_236 dX12_freely_41 kM_0 rfl ⟨Nat.le_of_ble_eq_true rfl, Nat.le_of_ble_eq_true rfl⟩ (Nat.le_of_ble_eq_true rfl) rfl ?_
      obtain ⟨x4, hx4, hF⟩ := bI hF
      refine st_cVi (vs := [.int i1, .int x3]) (st := [.int x2, .int i2]) h (w_X12_profitAt hx4) mi_X12_profitAt mv_X12_profitAt ml_X12_242 dX12_freely_44 kM_0 rfl ⟨Nat.le_of_ble_eq_true rfl, Nat.le_of_ble_eq_true rfl⟩ (Nat.le_of_ble_eq_true rfl) rfl ?_
      refine st_icmp_lt (t := 63) h dX12_freely_47 (by decide) (fun q2 => ?_) (fun q2 => ?_)
      · have hF := pI q2 hF
        refine st_ic_0 h dX12_freely_63 ?_
        refine st_iadd h dX12_freely_64 ?_
        refine st_istore_2 h dX12_freely_65 ?_
        refine st_iinc_3 (y := i3 + 1) h dX12_freely_66 (ii_1 _) ?_
        refine st_goto (t := 23) h dX12_freely_69 (by decide) ?_
        exact st_sub (ls_s (ls_s (ls_s (ls_s ls_e)))) (ih σ i1 (i2 + 0) (i3 + 1) z hF)
      · have hF := qI q2 hF
        refine st_aload_0 h dX12_freely_50 ?_
        refine st_iload_1 h dX12_freely_51 ?_
        refine st_iload_3 h dX12_freely_52 ?_
        obtain ⟨x5, hx5, hF⟩ := bI hF
        refine st_cVi (vs := [.int i1, .int i3]) (st := [.int i2]) h (w_X12_isKeptBy hx5) mi_X12_isKeptBy mv_X12_isKeptBy ml_X12_278 dX12_freely_53 kM_0 rfl ⟨Nat.le_of_ble_eq_true rfl, Nat.le_of_ble_eq_true rfl⟩ (Nat.le_of_ble_eq_true rfl) rfl ?_
        refine st_if_eq (t := 63) h dX12_freely_56 (by decide) (fun q3 => ?_) (fun q3 => ?_)
        · have hF := pI q3 hF
          refine st_ic_0 h dX12_freely_63 ?_
          refine st_iadd h dX12_freely_64 ?_
          refine st_istore_2 h dX12_freely_65 ?_
          refine st_iinc_3 (y := i3 + 1) h dX12_freely_66 (ii_1 _) ?_
          refine st_goto (t := 23) h dX12_freely_69 (by decide) ?_
          exact st_sub (ls_s (ls_s (ls_s (ls_s ls_e)))) (ih σ i1 (i2 + 0) (i3 + 1) z hF)
        · have hF := qI q3 hF
          refine st_ic_1 h dX12_freely_59 ?_
          refine st_goto (t := 64) h dX12_freely_60 (by decide) ?_
          refine st_iadd h dX12_freely_64 ?_
          refine st_istore_2 h dX12_freely_65 ?_
          refine st_iinc_3 (y := i3 + 1) h dX12_freely_66 (ii_1 _) ?_
          refine st_goto (t := 23) h dX12_freely_69 (by decide) ?_
          exact st_sub (ls_s (ls_s (ls_s (ls_s ls_e)))) (ih σ i1 (i2 + 1) (i3 + 1) z hF)
set_option maxRecDepth 100000 in
set_option maxHeartbeats 4000000 in
theorem w_X12_freely {l : Launch} {G : Gv} {σ : Sto} {i1 : Int32} {z : (Int32 × Sto)} (hF : F_X12_freely σ i1 = some z) : Con l yX12_freely cX12_freely 4 (some .int) 7 G shM νM [.ref 0, .int i1] (ovM σ) (some (.int z.1)) (ovM z.2) := by
  rw [F_X12_freely] at hF
  refine Con_enter (own := RX12) 2 (lv := [some (.ref 0), some (.int i1), none, none]) mi_X12_freely.2.2.2 rfl (Nat.le_of_ble_eq_true rfl) rfl (fun h hr hin => ?_)
  refine st_aload_0 h dX12_freely_0 ?_
  refine st_ic_0 h dX12_freely_1 ?_
  obtain ⟨s1, hs1, hF⟩ := swI hF
  refine pX12_0 h fl_X12_73 dX12_freely_2 (congrArg Prod.fst kM_0) hs1 ?_
  refine st_aload_0 h dX12_freely_5 ?_
  refine st_iload_1 h dX12_freely_6 ?_
  obtain ⟨x1, hx1, hF⟩ := bI hF
  refine st_cVi (vs := [.int i1]) (st := []) h (w_X12_isService hx1) mi_X12_isService mv_X12_isService ml_X12_272 dX12_freely_7 kM_0 rfl ⟨Nat.le_of_ble_eq_true rfl, Nat.le_of_ble_eq_true rfl⟩ (Nat.le_of_ble_eq_true rfl) rfl ?_
  refine st_if_ne (t := 19) h dX12_freely_10 (by decide) (fun q1 => ?_) (fun q1 => ?_)
  · have hF := qI q1 hF
    refine st_ic_0 h dX12_freely_19 ?_
    refine st_istore_2 h dX12_freely_20 ?_
    refine st_ic_0 h dX12_freely_21 ?_
    refine st_istore_3 h dX12_freely_22 ?_
    exact st_sub (ls_s (ls_s (ls_s (ls_s ls_e)))) (w_X12_freely_23 h hr FU s1 i1 0 0 z hF)
  · have hF := pI q1 hF
    refine st_aload_0 h dX12_freely_13 ?_
    refine st_ic_1 h dX12_freely_14 ?_
    obtain ⟨x2, hx2, hF⟩ := bI hF
    refine st_cVi (vs := [.int 1]) (st := []) h (w_X12_refused hx2) mi_X12_refused mv_X12_refused ml_X12_213 dX12_freely_15 kM_0 rfl ⟨Nat.le_of_ble_eq_true rfl, Nat.le_of_ble_eq_true rfl⟩ (Nat.le_of_ble_eq_true rfl) rfl ?_
    cases hF
    exact st_iret h hr dX12_freely_18
set_option maxRecDepth 100000 in
set_option maxHeartbeats 4000000 in
theorem w_X12_laysWorth_67 {p : Program} {l : Launch} {e : Env} {s : State} {m : MethodId} {args : Array Value} {below : List Frame} {meth : Method} {c : Code} {G : Gv} (h : Cx p s m args meth c G cX12_laysWorth 6 RX12) (hr : meth.sig.returnType = none) {k17 : Sto → Int32 → Int32 → Option Sto} (H17 : ∀ (σ : Sto) (i1 : Int32) (i2 : Int32) (z : Sto), k17 σ i1 i2 = some z → AW p l e (rmD 5 0 0) s m args below meth c (MQ below (QcR G shM νM none (ovM z)) args s 0 0 (gA G)) 0 0 G 6 17 [some (.ref 0), some (.int i1), some (.int i2), none, none, none] [] shM νM (ovM σ)) {k39 : Sto → Int32 → Int32 → Int32 → Int32 → Option Sto} (H39 : ∀ (σ : Sto) (i1 : Int32) (i2 : Int32) (i3 : Int32) (i4 : Int32) (z : Sto), k39 σ i1 i2 i3 i4 = some z → AW p l e (rmD 5 0 0) s m args below meth c (MQ below (QcR G shM νM none (ovM z)) args s 0 0 (gA G)) 0 0 G 6 39 [some (.ref 0), some (.int i1), some (.int i2), some (.int i3), some (.int i4), none] [] shM νM (ovM σ)) : ∀ (σ : Sto) (i1 : Int32) (i2 : Int32) (i3 : Int32) (i4 : Int32) (e0 : Int32) (z : Sto), F_X12_laysWorth_67 k17 k39 σ i1 i2 i3 i4 e0 = some z → AW p l e (rmD 5 0 0) s m args below meth c (MQ below (QcR G shM νM none (ovM z)) args s 0 0 (gA G)) 0 0 G 6 67 [some (.ref 0), some (.int i1), some (.int i2), some (.int i3), some (.int i4), none] [.int e0] shM νM (ovM σ) := by
  intro σ i1 i2 i3 i4 e0 z hF
  rw [F_X12_laysWorth_67] at hF
  refine st_istore_5 h dX12_laysWorth_67 ?_
  refine st_aload_0 h dX12_laysWorth_69 ?_
  refine gX12_31 h fl_X12_49 dX12_laysWorth_70 (congrArg Prod.fst kM_0) ?_
  refine st_bipush (v := 21) h dX12_laysWorth_73 (by decide) ?_
  refine st_iload_2 h dX12_laysWorth_75 ?_
  refine st_imul h dX12_laysWorth_76 ?_
  refine st_iload_4 h dX12_laysWorth_77 ?_
  refine st_iadd h dX12_laysWorth_79 ?_
  refine st_iload_5 h dX12_laysWorth_80 ?_
  obtain ⟨g1, hF⟩ := gI hF
  obtain ⟨s1, hs1, hF⟩ := swI hF
  refine isM h dX12_laysWorth_82 kM_12 g1 hs1 ?_
  refine st_iload_5 h dX12_laysWorth_83 ?_
  refine st_iload_3 h dX12_laysWorth_85 ?_
  refine st_icmp_le (t := 94) h dX12_laysWorth_86 (by decide) (fun q1 => ?_) (fun q1 => ?_)
  · have hF := pI q1 hF
    refine st_iload_3 h dX12_laysWorth_94 ?_
    refine st_istore_3 h dX12_laysWorth_95 ?_
    refine st_iinc_4 (y := i4 + 1) h dX12_laysWorth_96 (ii_1 _) ?_
    refine st_goto (t := 39) h dX12_laysWorth_99 (by decide) ?_
    exact st_sub (ls_s (ls_s (ls_s (ls_s (ls_s (ls_n ls_e)))))) (H39 s1 i1 i2 i3 (i4 + 1) z hF)
  · have hF := qI q1 hF
    refine st_iload_5 h dX12_laysWorth_89 ?_
    refine st_goto (t := 95) h dX12_laysWorth_91 (by decide) ?_
    refine st_istore_3 h dX12_laysWorth_95 ?_
    refine st_iinc_4 (y := i4 + 1) h dX12_laysWorth_96 (ii_1 _) ?_
    refine st_goto (t := 39) h dX12_laysWorth_99 (by decide) ?_
    exact st_sub (ls_s (ls_s (ls_s (ls_s (ls_s (ls_n ls_e)))))) (H39 s1 i1 i2 e0 (i4 + 1) z hF)
set_option maxRecDepth 100000 in
set_option maxHeartbeats 4000000 in
theorem w_X12_laysWorth_39 {p : Program} {l : Launch} {e : Env} {s : State} {m : MethodId} {args : Array Value} {below : List Frame} {meth : Method} {c : Code} {G : Gv} (h : Cx p s m args meth c G cX12_laysWorth 6 RX12) (hr : meth.sig.returnType = none) {k17 : Sto → Int32 → Int32 → Option Sto} (H17 : ∀ (σ : Sto) (i1 : Int32) (i2 : Int32) (z : Sto), k17 σ i1 i2 = some z → AW p l e (rmD 5 0 0) s m args below meth c (MQ below (QcR G shM νM none (ovM z)) args s 0 0 (gA G)) 0 0 G 6 17 [some (.ref 0), some (.int i1), some (.int i2), none, none, none] [] shM νM (ovM σ)) : ∀ (n : Nat) (σ : Sto) (i1 : Int32) (i2 : Int32) (i3 : Int32) (i4 : Int32) (z : Sto), F_X12_laysWorth_39 k17 n σ i1 i2 i3 i4 = some z → AW p l e (rmD 5 0 0) s m args below meth c (MQ below (QcR G shM νM none (ovM z)) args s 0 0 (gA G)) 0 0 G 6 39 [some (.ref 0), some (.int i1), some (.int i2), some (.int i3), some (.int i4), none] [] shM νM (ovM σ) := by
  intro n
  induction n with
  | zero => intro σ i1 i2 i3 i4 z hF; cases hF
  | succ n ih =>
    intro σ i1 i2 i3 i4 z hF
    rw [F_X12_laysWorth_39] at hF
    refine st_iload_4 h dX12_laysWorth_39 ?_
    refine st_bipush (v := 20) h dX12_laysWorth_41 (by decide) ?_
    refine st_icmp_gt (t := 102) h dX12_laysWorth_43 (by decide) (fun q1 => ?_) (fun q1 => ?_)
    · have hF := pI q1 hF
      refine st_aload_0 h dX12_laysWorth_102 ?_
      refine gX12_32 h fl_X12_52 dX12_laysWorth_103 (congrArg Prod.fst kM_0) ?_
      refine st_iload_2 h dX12_laysWorth_106 ?_
      refine st_aload_0 h dX12_laysWorth_107 ?_
      refine gX12_32 h fl_X12_52 dX12_laysWorth_108 (congrArg Prod.fst kM_0) ?_
      refine st_iload_2 h dX12_laysWorth_111 ?_
      refine st_ic_1 h dX12_laysWorth_112 ?_
      refine st_iadd h dX12_laysWorth_113 ?_
      obtain ⟨g1, hF⟩ := gI hF
      refine iaM h dX12_laysWorth_114 kM_13 g1 ?_
      refine st_iload_3 h dX12_laysWorth_115 ?_
      refine st_iadd h dX12_laysWorth_116 ?_
      obtain ⟨g2, hF⟩ := gI hF
      obtain ⟨s1, hs1, hF⟩ := swI hF
      refine isM h dX12_laysWorth_117 kM_13 g2 hs1 ?_
      refine st_iinc_2 (y := i2 + (-1)) h dX12_laysWorth_118 (ii_m1 _) ?_
      refine st_goto (t := 17) h dX12_laysWorth_121 (by decide) ?_
      exact st_sub (ls_s (ls_s (ls_s (ls_n (ls_n (ls_n ls_e)))))) (H17 s1 i1 (i2 + (-1)) z hF)
    · have hF := qI q1 hF
      refine st_iload_1 h dX12_laysWorth_46 ?_
      refine st_if_eq (t := 60) h dX12_laysWorth_47 (by decide) (fun q2 => ?_) (fun q2 => ?_)
      · have hF := pI q2 hF
        refine st_aload_0 h dX12_laysWorth_60 ?_
        refine st_iload_2 h dX12_laysWorth_61 ?_
        refine st_iload_4 h dX12_laysWorth_62 ?_
        obtain ⟨x1, hx1, hF⟩ := bI hF
        refine st_cVi (vs := [.int i2, .int i4]) (st := []) h (w_X12_profitAt hx1) mi_X12_profitAt mv_X12_profitAt ml_X12_242 dX12_laysWorth_64 kM_0 rfl ⟨Nat.le_of_ble_eq_true rfl, Nat.le_of_ble_eq_true rfl⟩ (Nat.le_of_ble_eq_true rfl) rfl ?_
        exact st_sub (ls_s (ls_s (ls_s (ls_s (ls_s (ls_n ls_e)))))) (w_X12_laysWorth_67 h hr H17 ih σ i1 i2 i3 i4 x1 z hF)
      · have hF := qI q2 hF
        refine st_aload_0 h dX12_laysWorth_50 ?_
        refine st_iload_2 h dX12_laysWorth_51 ?_
        refine st_iload_4 h dX12_laysWorth_52 ?_
        obtain ⟨x2, hx2, hF⟩ := bI hF
        refine st_cVi (vs := [.int i2, .int i4]) (st := []) h (w_X12_goodAt hx2) mi_X12_goodAt mv_X12_goodAt ml_X12_263 dX12_laysWorth_54 kM_0 rfl ⟨Nat.le_of_ble_eq_true rfl, Nat.le_of_ble_eq_true rfl⟩ (Nat.le_of_ble_eq_true rfl) rfl ?_
        refine st_goto (t := 67) h dX12_laysWorth_57 (by decide) ?_
        exact st_sub (ls_s (ls_s (ls_s (ls_s (ls_s (ls_n ls_e)))))) (w_X12_laysWorth_67 h hr H17 ih σ i1 i2 i3 i4 x2 z hF)
set_option maxRecDepth 100000 in
set_option maxHeartbeats 4000000 in
theorem w_X12_laysWorth_17 {p : Program} {l : Launch} {e : Env} {s : State} {m : MethodId} {args : Array Value} {below : List Frame} {meth : Method} {c : Code} {G : Gv} (h : Cx p s m args meth c G cX12_laysWorth 6 RX12) (hr : meth.sig.returnType = none) : ∀ (n : Nat) (σ : Sto) (i1 : Int32) (i2 : Int32) (z : Sto), F_X12_laysWorth_17 n σ i1 i2 = some z → AW p l e (rmD 5 0 0) s m args below meth c (MQ below (QcR G shM νM none (ovM z)) args s 0 0 (gA G)) 0 0 G 6 17 [some (.ref 0), some (.int i1), some (.int i2), none, none, none] [] shM νM (ovM σ) := by
  intro n
  induction n with
  | zero => intro σ i1 i2 z hF; cases hF
  | succ n ih =>
    intro σ i1 i2 z hF
    rw [F_X12_laysWorth_17] at hF
    refine st_iload_2 h dX12_laysWorth_17 ?_
    refine st_if_lt (t := 124) h dX12_laysWorth_18 (by decide) (fun q1 => ?_) (fun q1 => ?_)
    · have hF := pI q1 hF
      cases hF
      exact st_vret h hr dX12_laysWorth_124
    · have hF := qI q1 hF
      refine st_aload_0 h dX12_laysWorth_21 ?_
      refine gX12_33 h fl_X12_55 dX12_laysWorth_22 (congrArg Prod.fst kM_0) ?_
      refine st_iload_2 h dX12_laysWorth_25 ?_
      refine st_aload_0 h dX12_laysWorth_26 ?_
      refine st_iload_2 h dX12_laysWorth_27 ?_
      obtain ⟨x1, hx1, hF⟩ := bI hF
      refine st_cVi (vs := [.int i2]) (st := [.int i2, .ref 14]) h (w_X12_weight hx1) mi_X12_weight mv_X12_weight ml_X12_245 dX12_laysWorth_28 kM_0 rfl ⟨Nat.le_of_ble_eq_true rfl, Nat.le_of_ble_eq_true rfl⟩ (Nat.le_of_ble_eq_true rfl) rfl ?_
      obtain ⟨g1, hF⟩ := gI hF
      obtain ⟨s1, hs1, hF⟩ := swI hF
      refine isM h dX12_laysWorth_31 kM_14 g1 hs1 ?_
      refine st_ldcw h ck_X12_282 dX12_laysWorth_32 ?_
      refine st_istore_3 h dX12_laysWorth_35 ?_
      refine st_ic_0 h dX12_laysWorth_36 ?_
      refine st_istore_4 h dX12_laysWorth_37 ?_
      exact st_sub (ls_s (ls_s (ls_s (ls_s (ls_s (ls_n ls_e)))))) (w_X12_laysWorth_39 h hr ih FU s1 i1 i2 (-100000000) 0 z hF)
set_option maxRecDepth 100000 in
set_option maxHeartbeats 4000000 in
theorem w_X12_laysWorth {l : Launch} {G : Gv} {σ : Sto} {i1 : Int32} {z : Sto} (hF : F_X12_laysWorth σ i1 = some z) : Con l yX12_laysWorth cX12_laysWorth 6 none 5 G shM νM [.ref 0, .int i1] (ovM σ) none (ovM z) := by
  rw [F_X12_laysWorth] at hF
  refine Con_enter (own := RX12) 4 (lv := [some (.ref 0), some (.int i1), none, none, none, none]) mi_X12_laysWorth.2.2.2 rfl (Nat.le_of_ble_eq_true rfl) rfl (fun h hr hin => ?_)
  refine st_aload_0 h dX12_laysWorth_0 ?_
  refine gX12_32 h fl_X12_52 dX12_laysWorth_1 (congrArg Prod.fst kM_0) ?_
  refine st_aload_0 h dX12_laysWorth_4 ?_
  refine gX12_22 h fl_X12_220 dX12_laysWorth_5 (congrArg Prod.fst kM_0) ?_
  refine st_ic_0 h dX12_laysWorth_8 ?_
  obtain ⟨g1, hF⟩ := gI hF
  obtain ⟨s1, hs1, hF⟩ := swI hF
  refine isM h dX12_laysWorth_9 kM_13 g1 hs1 ?_
  refine st_aload_0 h dX12_laysWorth_10 ?_
  refine gX12_22 h fl_X12_220 dX12_laysWorth_11 (congrArg Prod.fst kM_0) ?_
  refine st_ic_1 h dX12_laysWorth_14 ?_
  refine st_isub h dX12_laysWorth_15 ?_
  refine st_istore_2 h dX12_laysWorth_16 ?_
  exact st_sub (ls_s (ls_s (ls_s (ls_n (ls_n (ls_n ls_e)))))) (w_X12_laysWorth_17 h hr FU s1 i1 ((s1.1 0 22) - 1) z hF)
set_option maxRecDepth 100000 in
set_option maxHeartbeats 4000000 in
theorem w_X12_burden_5 {p : Program} {l : Launch} {e : Env} {s : State} {m : MethodId} {args : Array Value} {below : List Frame} {meth : Method} {c : Code} {G : Gv} (h : Cx p s m args meth c G cX12_burden 5 RX12) (hr : meth.sig.returnType = (some .int)) : ∀ (n : Nat) (σ : Sto) (i1 : Int32) (i2 : Int32) (i3 : Int32) (i4 : Int32) (z : Int32), F_X12_burden_5 n σ i1 i2 i3 i4 = some z → AW p l e (rmD 2 0 0) s m args below meth c (MQ below (QcR G shM νM (some (.int z)) (ovM σ)) args s 0 0 (gA G)) 0 0 G 5 5 [some (.ref 0), some (.int i1), some (.int i2), some (.int i3), some (.int i4)] [] shM νM (ovM σ) := by
  intro n
  induction n with
  | zero => intro σ i1 i2 i3 i4 z hF; cases hF
  | succ n ih =>
    intro σ i1 i2 i3 i4 z hF
    rw [F_X12_burden_5] at hF
    refine st_iload_4 h dX12_burden_5 ?_
    refine st_aload_0 h dX12_burden_7 ?_
    refine gX12_22 h fl_X12_220 dX12_burden_8 (congrArg Prod.fst kM_0) ?_
    refine st_icmp_ge (t := 42) h dX12_burden_11 (by decide) (fun q1 => ?_) (fun q1 => ?_)
    · have hF := pI q1 hF
      refine st_iload_3 h dX12_burden_42 ?_
      cases hF
      exact st_iret h hr dX12_burden_43
    · have hF := qI q1 hF
      refine st_iload_3 h dX12_burden_14 ?_
      refine st_aload_0 h dX12_burden_15 ?_
      refine gX12_26 h fl_X12_43 dX12_burden_16 (congrArg Prod.fst kM_0) ?_
      refine st_ic_4 h dX12_burden_19 ?_
      refine st_iload_1 h dX12_burden_20 ?_
      refine st_imul h dX12_burden_21 ?_
      refine st_iload_4 h dX12_burden_22 ?_
      refine st_iadd h dX12_burden_24 ?_
      obtain ⟨g1, hF⟩ := gI hF
      refine iaM h dX12_burden_25 kM_10 g1 ?_
      refine st_aload_0 h dX12_burden_26 ?_
      refine st_iload_4 h dX12_burden_27 ?_
      refine st_iload_2 h dX12_burden_29 ?_
      obtain ⟨x1, hx1, hF⟩ := bI hF
      refine st_cVi (vs := [.int i4, .int i2]) (st := [.int (σ.1 10 (ix ((4 * i1) + i4))), .int i3]) h (w_X12_of hx1) mi_X12_of mv_X12_of ml_X12_236 dX12_burden_30 kM_0 rfl ⟨Nat.le_of_ble_eq_true rfl, Nat.le_of_ble_eq_true rfl⟩ (Nat.le_of_ble_eq_true rfl) rfl ?_
      refine st_imul h dX12_burden_33 ?_
      refine st_iadd h dX12_burden_34 ?_
      obtain ⟨v1, hv1, hF⟩ := swI hF
      refine st_nmi hv1 ?_
      refine st_istore_3 h dX12_burden_35 ?_
      refine st_iinc_4 (y := i4 + 1) h dX12_burden_36 (ii_1 _) ?_
      refine st_goto (t := 5) h dX12_burden_39 (by decide) ?_
      exact st_sub (ls_s (ls_s (ls_s (ls_s (ls_s ls_e))))) (ih σ i1 i2 v1 (i4 + 1) z hF)
set_option maxRecDepth 100000 in
set_option maxHeartbeats 4000000 in
theorem w_X12_burden {l : Launch} {G : Gv} {σ : Sto} {i1 : Int32} {i2 : Int32} {z : Int32} (hF : F_X12_burden σ i1 i2 = some z) : Con l yX12_burden cX12_burden 5 (some .int) 2 G shM νM [.ref 0, .int i1, .int i2] (ovM σ) (some (.int z)) (ovM σ) := by
  rw [F_X12_burden] at hF
  refine Con_enter (own := RX12) 2 (lv := [some (.ref 0), some (.int i1), some (.int i2), none, none]) mi_X12_burden.2.2.2 rfl (Nat.le_of_ble_eq_true rfl) rfl (fun h hr hin => ?_)
  refine st_ic_0 h dX12_burden_0 ?_
  refine st_istore_3 h dX12_burden_1 ?_
  refine st_ic_0 h dX12_burden_2 ?_
  refine st_istore_4 h dX12_burden_3 ?_
  exact st_sub (ls_s (ls_s (ls_s (ls_s (ls_s ls_e))))) (w_X12_burden_5 h hr FU σ i1 i2 0 0 z hF)
set_option maxRecDepth 100000 in
set_option maxHeartbeats 4000000 in
theorem w_X12_bears_74 {p : Program} {l : Launch} {e : Env} {s : State} {m : MethodId} {args : Array Value} {below : List Frame} {meth : Method} {c : Code} {G : Gv} (h : Cx p s m args meth c G cX12_bears 5 RX12) (hr : meth.sig.returnType = (some .boolean)) : ∀ (σ : Sto) (z : (Int32 × Sto)), F_X12_bears_74 σ  = some z → AW p l e (rmD 1 0 0) s m args below meth c (MQ below (QcR G shM νM (some (.int z.1)) (ovM z.2)) args s 0 0 (gA G)) 0 0 G 5 74 [none, none, none, none, none] [] shM νM (ovM σ) := by
  intro σ z hF
  rw [F_X12_bears_74] at hF
  refine st_ic_1 h dX12_bears_74 ?_
  refine st_goto (t := 79) h dX12_bears_75 (by decide) ?_
  cases hF
  exact st_zret h hr (Or.inr rfl) dX12_bears_79
set_option maxRecDepth 100000 in
set_option maxHeartbeats 4000000 in
theorem w_X12_bears_5 {p : Program} {l : Launch} {e : Env} {s : State} {m : MethodId} {args : Array Value} {below : List Frame} {meth : Method} {c : Code} {G : Gv} (h : Cx p s m args meth c G cX12_bears 5 RX12) (hr : meth.sig.returnType = (some .boolean)) : ∀ (n : Nat) (σ : Sto) (i1 : Int32) (i2 : Int32) (i3 : Int32) (i4 : Int32) (z : (Int32 × Sto)), F_X12_bears_5 n σ i1 i2 i3 i4 = some z → AW p l e (rmD 1 0 0) s m args below meth c (MQ below (QcR G shM νM (some (.int z.1)) (ovM z.2)) args s 0 0 (gA G)) 0 0 G 5 5 [some (.ref 0), some (.int i1), some (.int i2), some (.int i3), some (.int i4)] [] shM νM (ovM σ) := by
  intro n
  induction n with
  | zero => intro σ i1 i2 i3 i4 z hF; cases hF
  | succ n ih =>
    intro σ i1 i2 i3 i4 z hF
    rw [F_X12_bears_5] at hF
    refine st_iload_4 h dX12_bears_5 ?_
    refine st_aload_0 h dX12_bears_7 ?_
    refine gX12_28 h fl_X12_223 dX12_bears_8 (congrArg Prod.fst kM_0) ?_
    refine st_icmp_ge (t := 63) h dX12_bears_11 (by decide) (fun q1 => ?_) (fun q1 => ?_)
    · have hF := pI q1 hF
      refine st_iload_3 h dX12_bears_63 ?_
      refine st_if_ne (t := 74) h dX12_bears_64 (by decide) (fun q2 => ?_) (fun q2 => ?_)
      · have hF := qI q2 hF
        exact st_sub (ls_n (ls_n (ls_n (ls_n (ls_n ls_e))))) (w_X12_bears_74 h hr σ  z hF)
      · have hF := pI q2 hF
        refine st_aload_0 h dX12_bears_67 ?_
        refine gX12_39 h fl_X12_283 dX12_bears_68 (congrArg Prod.fst kM_0) ?_
        refine st_if_ne (t := 78) h dX12_bears_71 (by decide) (fun q3 => ?_) (fun q3 => ?_)
        · have hF := qI q3 hF
          refine st_ic_0 h dX12_bears_78 ?_
          cases hF
          exact st_zret h hr (Or.inl rfl) dX12_bears_79
        · have hF := pI q3 hF
          exact st_sub (ls_n (ls_n (ls_n (ls_n (ls_n ls_e))))) (w_X12_bears_74 h hr σ  z hF)
    · have hF := qI q1 hF
      refine st_aload_0 h dX12_bears_14 ?_
      refine gX12_40 h fl_X12_67 dX12_bears_15 (congrArg Prod.fst kM_0) ?_
      refine st_iload_4 h dX12_bears_18 ?_
      refine st_dup2 h rfl rfl dX12_bears_20 ?_
      obtain ⟨g1, hF⟩ := gI hF
      refine iaM h dX12_bears_21 kM_17 g1 ?_
      refine st_aload_0 h dX12_bears_22 ?_
      refine gX12_26 h fl_X12_43 dX12_bears_23 (congrArg Prod.fst kM_0) ?_
      refine st_ic_4 h dX12_bears_26 ?_
      refine st_iload_4 h dX12_bears_27 ?_
      refine st_imul h dX12_bears_29 ?_
      refine st_iload_1 h dX12_bears_30 ?_
      refine st_iadd h dX12_bears_31 ?_
      obtain ⟨g2, hF⟩ := gI hF
      refine iaM h dX12_bears_32 kM_10 g2 ?_
      refine st_iload_2 h dX12_bears_33 ?_
      refine st_imul h dX12_bears_34 ?_
      refine st_isub h dX12_bears_35 ?_
      obtain ⟨s1, hs1, hF⟩ := swI hF
      refine isM h dX12_bears_36 kM_17 g1 hs1 ?_
      refine st_iload_3 h dX12_bears_37 ?_
      refine st_if_eq (t := 55) h dX12_bears_38 (by decide) (fun q4 => ?_) (fun q4 => ?_)
      · have hF := pI q4 hF
        refine st_ic_0 h dX12_bears_55 ?_
        refine st_istore_3 h dX12_bears_56 ?_
        refine st_iinc_4 (y := i4 + 1) h dX12_bears_57 (ii_1 _) ?_
        refine st_goto (t := 5) h dX12_bears_60 (by decide) ?_
        exact st_sub (ls_s (ls_s (ls_s (ls_s (ls_s ls_e))))) (ih s1 i1 i2 0 (i4 + 1) z hF)
      · have hF := qI q4 hF
        refine st_aload_0 h dX12_bears_41 ?_
        refine gX12_40 h fl_X12_67 dX12_bears_42 (congrArg Prod.fst kM_0) ?_
        refine st_iload_4 h dX12_bears_45 ?_
        refine iaM h dX12_bears_47 kM_17 g1 ?_
        refine st_if_lt (t := 55) h dX12_bears_48 (by decide) (fun q5 => ?_) (fun q5 => ?_)
        · have hF := pI q5 hF
          refine st_ic_0 h dX12_bears_55 ?_
          refine st_istore_3 h dX12_bears_56 ?_
          refine st_iinc_4 (y := i4 + 1) h dX12_bears_57 (ii_1 _) ?_
          refine st_goto (t := 5) h dX12_bears_60 (by decide) ?_
          exact st_sub (ls_s (ls_s (ls_s (ls_s (ls_s ls_e))))) (ih s1 i1 i2 0 (i4 + 1) z hF)
        · have hF := qI q5 hF
          refine st_ic_1 h dX12_bears_51 ?_
          refine st_goto (t := 56) h dX12_bears_52 (by decide) ?_
          refine st_istore_3 h dX12_bears_56 ?_
          refine st_iinc_4 (y := i4 + 1) h dX12_bears_57 (ii_1 _) ?_
          refine st_goto (t := 5) h dX12_bears_60 (by decide) ?_
          exact st_sub (ls_s (ls_s (ls_s (ls_s (ls_s ls_e))))) (ih s1 i1 i2 1 (i4 + 1) z hF)
set_option maxRecDepth 100000 in
set_option maxHeartbeats 4000000 in
theorem w_X12_bears {l : Launch} {G : Gv} {σ : Sto} {i1 : Int32} {i2 : Int32} {z : (Int32 × Sto)} (hF : F_X12_bears σ i1 i2 = some z) : Con l yX12_bears cX12_bears 5 (some .boolean) 1 G shM νM [.ref 0, .int i1, .int i2] (ovM σ) (some (.int z.1)) (ovM z.2) := by
  rw [F_X12_bears] at hF
  refine Con_enter (own := RX12) 2 (lv := [some (.ref 0), some (.int i1), some (.int i2), none, none]) mi_X12_bears.2.2.2 rfl (Nat.le_of_ble_eq_true rfl) rfl (fun h hr hin => ?_)
  refine st_ic_1 h dX12_bears_0 ?_
  refine st_istore_3 h dX12_bears_1 ?_
  refine st_ic_0 h dX12_bears_2 ?_
  refine st_istore_4 h dX12_bears_3 ?_
  exact st_sub (ls_s (ls_s (ls_s (ls_s (ls_s ls_e))))) (w_X12_bears_5 h hr FU σ i1 i2 1 0 z hF)
set_option maxRecDepth 100000 in
set_option maxHeartbeats 4000000 in
theorem w_X12_isNear_38 {p : Program} {l : Launch} {e : Env} {s : State} {m : MethodId} {args : Array Value} {below : List Frame} {meth : Method} {c : Code} {G : Gv} (h : Cx p s m args meth c G cX12_isNear 3 RX12) (hr : meth.sig.returnType = (some .boolean)) : ∀ (σ : Sto) (z : Int32), F_X12_isNear_38 σ  = some z → AW p l e (rmD 2 0 0) s m args below meth c (MQ below (QcR G shM νM (some (.int z)) (ovM σ)) args s 0 0 (gA G)) 0 0 G 3 38 [none, none, none] [] shM νM (ovM σ) := by
  intro σ z hF
  rw [F_X12_isNear_38] at hF
  refine st_ic_1 h dX12_isNear_38 ?_
  refine st_goto (t := 43) h dX12_isNear_39 (by decide) ?_
  cases hF
  exact st_zret h hr (Or.inr rfl) dX12_isNear_43
set_option maxRecDepth 100000 in
set_option maxHeartbeats 4000000 in
theorem w_X12_isNear {l : Launch} {G : Gv} {σ : Sto} {i1 : Int32} {i2 : Int32} {z : Int32} (hF : F_X12_isNear σ i1 i2 = some z) : Con l yX12_isNear cX12_isNear 3 (some .boolean) 2 G shM νM [.ref 0, .int i1, .int i2] (ovM σ) (some (.int z)) (ovM σ) := by
  rw [F_X12_isNear] at hF
  refine Con_enter (own := RX12) 0 (lv := [some (.ref 0), some (.int i1), some (.int i2)]) mi_X12_isNear.2.2.2 rfl (Nat.le_of_ble_eq_true rfl) rfl (fun h hr hin => ?_)
  refine st_aload_0 h dX12_isNear_0 ?_
  refine gX12_38 h fl_X12_64 dX12_isNear_1 (congrArg Prod.fst kM_0) ?_
  refine st_ic_m1 h dX12_isNear_4 ?_
  refine st_icmp_eq (t := 38) h dX12_isNear_5 (by decide) (fun q1 => ?_) (fun q1 => ?_)
  · have hF := pI q1 hF
    exact st_sub (ls_n (ls_n (ls_n ls_e))) (w_X12_isNear_38 h hr σ  z hF)
  · have hF := qI q1 hF
    refine st_iload_2 h dX12_isNear_8 ?_
    refine st_aload_0 h dX12_isNear_9 ?_
    refine st_iload_1 h dX12_isNear_10 ?_
    refine st_ic_0 h dX12_isNear_11 ?_
    obtain ⟨x1, hx1, hF⟩ := bI hF
    refine st_cVi (vs := [.int i1, .int 0]) (st := [.int i2]) h (w_X12_of hx1) mi_X12_of mv_X12_of ml_X12_236 dX12_isNear_12 kM_0 rfl ⟨Nat.le_of_ble_eq_true rfl, Nat.le_of_ble_eq_true rfl⟩ (Nat.le_of_ble_eq_true rfl) rfl ?_
    refine st_isub h dX12_isNear_15 ?_
    refine st_aload_0 h dX12_isNear_16 ?_
    refine gX12_38 h fl_X12_64 dX12_isNear_17 (congrArg Prod.fst kM_0) ?_
    refine st_icmp_gt (t := 42) h dX12_isNear_20 (by decide) (fun q2 => ?_) (fun q2 => ?_)
    · have hF := pI q2 hF
      refine st_ic_0 h dX12_isNear_42 ?_
      cases hF
      exact st_zret h hr (Or.inl rfl) dX12_isNear_43
    · have hF := qI q2 hF
      refine st_aload_0 h dX12_isNear_23 ?_
      refine st_iload_1 h dX12_isNear_24 ?_
      refine st_ic_0 h dX12_isNear_25 ?_
      obtain ⟨x2, hx2, hF⟩ := bI hF
      refine st_cVi (vs := [.int i1, .int 0]) (st := []) h (w_X12_of hx2) mi_X12_of mv_X12_of ml_X12_236 dX12_isNear_26 kM_0 rfl ⟨Nat.le_of_ble_eq_true rfl, Nat.le_of_ble_eq_true rfl⟩ (Nat.le_of_ble_eq_true rfl) rfl ?_
      refine st_iload_2 h dX12_isNear_29 ?_
      refine st_isub h dX12_isNear_30 ?_
      refine st_aload_0 h dX12_isNear_31 ?_
      refine gX12_38 h fl_X12_64 dX12_isNear_32 (congrArg Prod.fst kM_0) ?_
      refine st_icmp_gt (t := 42) h dX12_isNear_35 (by decide) (fun q3 => ?_) (fun q3 => ?_)
      · have hF := pI q3 hF
        refine st_ic_0 h dX12_isNear_42 ?_
        cases hF
        exact st_zret h hr (Or.inl rfl) dX12_isNear_43
      · have hF := qI q3 hF
        exact st_sub (ls_n (ls_n (ls_n ls_e))) (w_X12_isNear_38 h hr σ  z hF)
set_option maxRecDepth 100000 in
set_option maxHeartbeats 4000000 in
theorem w_X12_tries_148 {p : Program} {l : Launch} {e : Env} {s : State} {m : MethodId} {args : Array Value} {below : List Frame} {meth : Method} {c : Code} {G : Gv} (h : Cx p s m args meth c G cX12_tries 6 RX12) (hr : meth.sig.returnType = none) {d : Nat} {kr : Sto → Int32 → Int32 → Int32 → Option Sto} (Hr : ∀ (σ : Sto) (i1 : Int32) (i2 : Int32) (i3 : Int32) (z : Sto), kr σ i1 i2 i3 = some z → Con l yX12_tries cX12_tries 6 none (d + 3) G shM νM [.ref 0, .int i1, .int i2, .int i3] (ovM σ) none (ovM z)) {k65 : Sto → Int32 → Int32 → Int32 → Int32 → Option Sto} (H65 : ∀ (σ : Sto) (i1 : Int32) (i2 : Int32) (i3 : Int32) (i4 : Int32) (z : Sto), k65 σ i1 i2 i3 i4 = some z → AW p l e (rmD (d + 1 + 3) 0 0) s m args below meth c (MQ below (QcR G shM νM none (ovM z)) args s 0 0 (gA G)) 0 0 G 6 65 [some (.ref 0), some (.int i1), some (.int i2), some (.int i3), some (.int i4), none] [] shM νM (ovM σ)) : ∀ (σ : Sto) (i1 : Int32) (i2 : Int32) (i3 : Int32) (i4 : Int32) (z : Sto), F_X12_tries_148 kr k65 σ i1 i2 i3 i4 = some z → AW p l e (rmD (d + 1 + 3) 0 0) s m args below meth c (MQ below (QcR G shM νM none (ovM z)) args s 0 0 (gA G)) 0 0 G 6 148 [some (.ref 0), some (.int i1), some (.int i2), some (.int i3), some (.int i4), none] [] shM νM (ovM σ) := by
  intro σ i1 i2 i3 i4 z hF
  rw [F_X12_tries_148] at hF
  refine st_aload_0 h dX12_tries_148 ?_
  refine st_iload_1 h dX12_tries_149 ?_
  refine st_iload_4 h dX12_tries_150 ?_
  refine st_ineg h dX12_tries_152 ?_
  obtain ⟨x1, hx1, hF⟩ := bI hF
  refine st_cVi (vs := [.int i1, .int (-i4)]) (st := []) h (w_X12_bears hx1) mi_X12_bears mv_X12_bears ml_X12_292 dX12_tries_153 kM_0 rfl (by constructor <;> simp only [rmD] <;> omega) (Nat.le_of_ble_eq_true rfl) rfl ?_
  refine st_istore_5 h dX12_tries_156 ?_
  refine st_iinc_4 (y := i4 + 1) h dX12_tries_158 (ii_1 _) ?_
  refine st_goto (t := 65) h dX12_tries_161 (by decide) ?_
  exact st_sub (ls_s (ls_s (ls_s (ls_s (ls_s (ls_n ls_e)))))) (H65 x1.2 i1 i2 i3 (i4 + 1) z hF)
set_option maxRecDepth 100000 in
set_option maxHeartbeats 4000000 in
theorem w_X12_tries_65 {p : Program} {l : Launch} {e : Env} {s : State} {m : MethodId} {args : Array Value} {below : List Frame} {meth : Method} {c : Code} {G : Gv} (h : Cx p s m args meth c G cX12_tries 6 RX12) (hr : meth.sig.returnType = none) {d : Nat} {kr : Sto → Int32 → Int32 → Int32 → Option Sto} (Hr : ∀ (σ : Sto) (i1 : Int32) (i2 : Int32) (i3 : Int32) (z : Sto), kr σ i1 i2 i3 = some z → Con l yX12_tries cX12_tries 6 none (d + 3) G shM νM [.ref 0, .int i1, .int i2, .int i3] (ovM σ) none (ovM z)) : ∀ (n : Nat) (σ : Sto) (i1 : Int32) (i2 : Int32) (i3 : Int32) (i4 : Int32) (z : Sto), F_X12_tries_65 kr n σ i1 i2 i3 i4 = some z → AW p l e (rmD (d + 1 + 3) 0 0) s m args below meth c (MQ below (QcR G shM νM none (ovM z)) args s 0 0 (gA G)) 0 0 G 6 65 [some (.ref 0), some (.int i1), some (.int i2), some (.int i3), some (.int i4), none] [] shM νM (ovM σ) := by
  intro n
  induction n with
  | zero => intro σ i1 i2 i3 i4 z hF; cases hF
  | succ n ih =>
    intro σ i1 i2 i3 i4 z hF
    rw [F_X12_tries_65] at hF
    refine st_iload_4 h dX12_tries_65 ?_
    refine st_bipush (v := 20) h dX12_tries_67 (by decide) ?_
    refine st_icmp_gt (t := 164) h dX12_tries_69 (by decide) (fun q1 => ?_) (fun q1 => ?_)
    · have hF := pI q1 hF
      cases hF
      exact st_vret h hr dX12_tries_164
    · have hF := qI q1 hF
      refine st_iload_4 h dX12_tries_72 ?_
      refine st_aload_0 h dX12_tries_74 ?_
      refine gX12_33 h fl_X12_55 dX12_tries_75 (congrArg Prod.fst kM_0) ?_
      refine st_iload_1 h dX12_tries_78 ?_
      obtain ⟨g1, hF⟩ := gI hF
      refine iaM h dX12_tries_79 kM_14 g1 ?_
      refine st_imul h dX12_tries_80 ?_
      refine st_iload_2 h dX12_tries_81 ?_
      refine st_icmp_gt (t := 164) h dX12_tries_82 (by decide) (fun q2 => ?_) (fun q2 => ?_)
      · have hF := pI q2 hF
        cases hF
        exact st_vret h hr dX12_tries_164
      · have hF := qI q2 hF
        refine st_aload_0 h dX12_tries_85 ?_
        refine st_iload_1 h dX12_tries_86 ?_
        refine st_iload_4 h dX12_tries_87 ?_
        obtain ⟨x1, hx1, hF⟩ := bI hF
        refine st_cVi (vs := [.int i1, .int i4]) (st := []) h (w_X12_isNear hx1) mi_X12_isNear mv_X12_isNear ml_X12_289 dX12_tries_89 kM_0 rfl (by constructor <;> simp only [rmD] <;> omega) (Nat.le_of_ble_eq_true rfl) rfl ?_
        refine st_if_ne (t := 98) h dX12_tries_92 (by decide) (fun q3 => ?_) (fun q3 => ?_)
        · have hF := qI q3 hF
          refine st_aload_0 h dX12_tries_98 ?_
          refine gX12_34 h fl_X12_58 dX12_tries_99 (congrArg Prod.fst kM_0) ?_
          refine st_iload_1 h dX12_tries_102 ?_
          refine st_iload_4 h dX12_tries_103 ?_
          obtain ⟨s1, hs1, hF⟩ := swI hF
          refine isM h dX12_tries_105 kM_15 g1 hs1 ?_
          refine st_aload_0 h dX12_tries_106 ?_
          refine st_iload_1 h dX12_tries_107 ?_
          refine st_iload_4 h dX12_tries_108 ?_
          obtain ⟨x2, hx2, hF⟩ := bI hF
          refine st_cVi (vs := [.int i1, .int i4]) (st := []) h (w_X12_bears hx2) mi_X12_bears mv_X12_bears ml_X12_292 dX12_tries_110 kM_0 rfl (by constructor <;> simp only [rmD] <;> omega) (Nat.le_of_ble_eq_true rfl) rfl ?_
          refine st_if_eq (t := 148) h dX12_tries_113 (by decide) (fun q4 => ?_) (fun q4 => ?_)
          · have hF := pI q4 hF
            exact st_sub (ls_s (ls_s (ls_s (ls_s (ls_s (ls_n ls_e)))))) (w_X12_tries_148 h hr Hr ih x2.2 i1 i2 i3 i4 z hF)
          · have hF := qI q4 hF
            refine st_aload_0 h dX12_tries_116 ?_
            refine st_iload_1 h dX12_tries_117 ?_
            refine st_ic_1 h dX12_tries_118 ?_
            refine st_iadd h dX12_tries_119 ?_
            refine st_iload_2 h dX12_tries_120 ?_
            refine st_iload_4 h dX12_tries_121 ?_
            refine st_aload_0 h dX12_tries_123 ?_
            refine gX12_33 h fl_X12_55 dX12_tries_124 (congrArg Prod.fst kM_0) ?_
            refine st_iload_1 h dX12_tries_127 ?_
            refine iaM h dX12_tries_128 kM_14 g1 ?_
            refine st_imul h dX12_tries_129 ?_
            refine st_isub h dX12_tries_130 ?_
            refine st_iload_3 h dX12_tries_131 ?_
            refine st_aload_0 h dX12_tries_132 ?_
            refine gX12_31 h fl_X12_49 dX12_tries_133 (congrArg Prod.fst kM_0) ?_
            refine st_bipush (v := 21) h dX12_tries_136 (by decide) ?_
            refine st_iload_1 h dX12_tries_138 ?_
            refine st_imul h dX12_tries_139 ?_
            refine st_iload_4 h dX12_tries_140 ?_
            refine st_iadd h dX12_tries_142 ?_
            obtain ⟨g2, hF⟩ := gI hF
            refine iaM h dX12_tries_143 kM_12 g2 ?_
            refine st_iadd h dX12_tries_144 ?_
            obtain ⟨x3, hx3, hF⟩ := bI hF
            refine st_cVv (vs := [.int (i1 + 1), .int (i2 - (i4 * (x2.2.1 14 (ix i1)))), .int (i3 + (x2.2.1 12 (ix ((21 * i1) + i4))))]) (st := []) h (Hr x2.2 (i1 + 1) (i2 - (i4 * (x2.2.1 14 (ix i1)))) (i3 + (x2.2.1 12 (ix ((21 * i1) + i4)))) x3 hx3) mi_X12_tries mv_X12_tries ml_X12_294 dX12_tries_145 kM_0 rfl (by constructor <;> simp only [rmD] <;> omega) (Nat.le_of_ble_eq_true rfl) rfl ?_
            exact st_sub (ls_s (ls_s (ls_s (ls_s (ls_s (ls_n ls_e)))))) (w_X12_tries_148 h hr Hr ih x3 i1 i2 i3 i4 z hF)
        · have hF := pI q3 hF
          refine st_goto (t := 158) h dX12_tries_95 (by decide) ?_
          refine st_iinc_4 (y := i4 + 1) h dX12_tries_158 (ii_1 _) ?_
          refine st_goto (t := 65) h dX12_tries_161 (by decide) ?_
          exact st_sub (ls_s (ls_s (ls_s (ls_s (ls_s (ls_n ls_e)))))) (ih σ i1 i2 i3 (i4 + 1) z hF)
set_option maxRecDepth 100000 in
set_option maxHeartbeats 4000000 in
theorem w_X12_tries_32 {p : Program} {l : Launch} {e : Env} {s : State} {m : MethodId} {args : Array Value} {below : List Frame} {meth : Method} {c : Code} {G : Gv} (h : Cx p s m args meth c G cX12_tries 6 RX12) (hr : meth.sig.returnType = none) {d : Nat} {kr : Sto → Int32 → Int32 → Int32 → Option Sto} (Hr : ∀ (σ : Sto) (i1 : Int32) (i2 : Int32) (i3 : Int32) (z : Sto), kr σ i1 i2 i3 = some z → Con l yX12_tries cX12_tries 6 none (d + 3) G shM νM [.ref 0, .int i1, .int i2, .int i3] (ovM σ) none (ovM z)) : ∀ (n : Nat) (σ : Sto) (i4 : Int32) (z : Sto), F_X12_tries_32 kr n σ i4 = some z → AW p l e (rmD (d + 1 + 3) 0 0) s m args below meth c (MQ below (QcR G shM νM none (ovM z)) args s 0 0 (gA G)) 0 0 G 6 32 [some (.ref 0), none, none, none, some (.int i4), none] [] shM νM (ovM σ) := by
  intro n
  induction n with
  | zero => intro σ i4 z hF; cases hF
  | succ n ih =>
    intro σ i4 z hF
    rw [F_X12_tries_32] at hF
    refine st_iload_4 h dX12_tries_32 ?_
    refine st_aload_0 h dX12_tries_34 ?_
    refine gX12_22 h fl_X12_220 dX12_tries_35 (congrArg Prod.fst kM_0) ?_
    refine st_icmp_ge (t := 61) h dX12_tries_38 (by decide) (fun q1 => ?_) (fun q1 => ?_)
    · have hF := pI q1 hF
      cases hF
      exact st_vret h hr dX12_tries_61
    · have hF := qI q1 hF
      refine st_aload_0 h dX12_tries_41 ?_
      refine gX12_35 h fl_X12_61 dX12_tries_42 (congrArg Prod.fst kM_0) ?_
      refine st_iload_4 h dX12_tries_45 ?_
      refine st_aload_0 h dX12_tries_47 ?_
      refine gX12_34 h fl_X12_58 dX12_tries_48 (congrArg Prod.fst kM_0) ?_
      refine st_iload_4 h dX12_tries_51 ?_
      obtain ⟨g1, hF⟩ := gI hF
      refine iaM h dX12_tries_53 kM_15 g1 ?_
      obtain ⟨s1, hs1, hF⟩ := swI hF
      refine isM h dX12_tries_54 kM_16 g1 hs1 ?_
      refine st_iinc_4 (y := i4 + 1) h dX12_tries_55 (ii_1 _) ?_
      refine st_goto (t := 32) h dX12_tries_58 (by decide) ?_
      exact st_sub (ls_s (ls_n (ls_n (ls_n (ls_s (ls_n ls_e)))))) (ih s1 (i4 + 1) z hF)
set_option maxRecDepth 100000 in
set_option maxHeartbeats 4000000 in
theorem w_X12_tries {l : Launch} {G : Gv} : ∀ (d : Nat) (σ : Sto) (i1 : Int32) (i2 : Int32) (i3 : Int32) (z : Sto), F_X12_tries d σ i1 i2 i3 = some z → Con l yX12_tries cX12_tries 6 none (d + 3) G shM νM [.ref 0, .int i1, .int i2, .int i3] (ovM σ) none (ovM z) := by
  intro d
  induction d with
  | zero => intro σ i1 i2 i3 z hF; cases hF
  | succ d Hr =>
    intro σ i1 i2 i3 z hF
    rw [F_X12_tries] at hF
    refine Con_enter (own := RX12) 2 (lv := [some (.ref 0), some (.int i1), some (.int i2), some (.int i3), none, none]) mi_X12_tries.2.2.2 rfl (Nat.le_of_ble_eq_true rfl) rfl (fun h hr hin => ?_)
    refine st_iload_3 h dX12_tries_0 ?_
    refine st_aload_0 h dX12_tries_1 ?_
    refine gX12_32 h fl_X12_52 dX12_tries_2 (congrArg Prod.fst kM_0) ?_
    refine st_iload_1 h dX12_tries_5 ?_
    obtain ⟨g1, hF⟩ := gI hF
    refine iaM h dX12_tries_6 kM_13 g1 ?_
    refine st_iadd h dX12_tries_7 ?_
    refine st_aload_0 h dX12_tries_8 ?_
    refine gX12_36 h fl_X12_286 dX12_tries_9 (congrArg Prod.fst kM_0) ?_
    refine st_icmp_gt (t := 16) h dX12_tries_12 (by decide) (fun q1 => ?_) (fun q1 => ?_)
    · have hF := pI q1 hF
      refine st_iload_1 h dX12_tries_16 ?_
      refine st_aload_0 h dX12_tries_17 ?_
      refine gX12_22 h fl_X12_220 dX12_tries_18 (congrArg Prod.fst kM_0) ?_
      refine st_icmp_ne (t := 62) h dX12_tries_21 (by decide) (fun q2 => ?_) (fun q2 => ?_)
      · have hF := qI q2 hF
        refine st_ic_0 h dX12_tries_62 ?_
        refine st_istore_4 h dX12_tries_63 ?_
        exact st_sub (ls_s (ls_s (ls_s (ls_s (ls_s (ls_n ls_e)))))) (w_X12_tries_65 h hr Hr FU σ i1 i2 i3 0 z hF)
      · have hF := pI q2 hF
        refine st_aload_0 h dX12_tries_24 ?_
        refine st_iload_3 h dX12_tries_25 ?_
        obtain ⟨s1, hs1, hF⟩ := swI hF
        refine pX12_36 h fl_X12_286 dX12_tries_26 (congrArg Prod.fst kM_0) hs1 ?_
        refine st_ic_0 h dX12_tries_29 ?_
        refine st_istore_4 h dX12_tries_30 ?_
        exact st_sub (ls_s (ls_n (ls_n (ls_n (ls_s (ls_n ls_e)))))) (w_X12_tries_32 h hr Hr FU s1 0 z hF)
    · have hF := qI q1 hF
      cases hF
      exact st_vret h hr dX12_tries_15
