set_option maxRecDepth 100000 in
set_option maxHeartbeats 4000000 in
theorem w_X11_putNumber_3 {p : Program} {l : Launch} {e : Env} {s : State} {m : MethodId} {args : Array Value} {below : List Frame} {meth : Method} {c : Code} {G : Gv} (h : Cx p s m args meth c G cX11_putNumber 3 RX11) (hr : meth.sig.returnType = none) : ∀ (n : Nat) (σ : Sto) (i1 : Int32) (i2 : Int32) (z : Sto), F_X11_putNumber_3 n σ i1 i2 = some z → AW p l e (rmD 1 0 0) s m args below meth c (MQ below (QcR G shC νC none (ovC z)) args s 0 0 (gA G)) 0 0 G 3 3 [some (.ref 0), some (.int i1), some (.int i2)] [] shC νC (ovC σ) := by
  intro n
  induction n with
  | zero => intro σ i1 i2 z hF; cases hF
  | succ n ih =>
    intro σ i1 i2 z hF
    rw [F_X11_putNumber_3] at hF
    refine st_iload_2 h dX11_putNumber_3 ?_
    refine st_if_lt (t := 49) h dX11_putNumber_4 (by decide) (fun q1 => ?_) (fun q1 => ?_)
    · have hF := pI q1 hF
      cases hF
      exact st_vret h hr dX11_putNumber_49
    · have hF := qI q1 hF
      refine st_aload_0 h dX11_putNumber_7 ?_
      refine gX11_14 h fl_X11_91 dX11_putNumber_8 (congrArg Prod.fst kC_0) ?_
      refine st_sipush (v := 500) h dX11_putNumber_11 (by decide) ?_
      refine st_icmp_ge (t := 49) h dX11_putNumber_14 (by decide) (fun q2 => ?_) (fun q2 => ?_)
      · have hF := pI q2 hF
        cases hF
        exact st_vret h hr dX11_putNumber_49
      · have hF := qI q2 hF
        refine st_aload_0 h dX11_putNumber_17 ?_
        refine gX11_0 h fl_X11_9 dX11_putNumber_18 (congrArg Prod.fst kC_0) ?_
        refine st_aload_0 h dX11_putNumber_21 ?_
        refine gX11_14 h fl_X11_91 dX11_putNumber_22 (congrArg Prod.fst kC_0) ?_
        refine st_iload_1 h dX11_putNumber_25 ?_
        refine st_iload_2 h dX11_putNumber_26 ?_
        refine st_iushr h dX11_putNumber_27 ?_
        refine st_sipush (v := 255) h dX11_putNumber_28 (by decide) ?_
        refine st_iand h dX11_putNumber_31 ?_
        obtain ⟨g1, hF⟩ := gI hF
        obtain ⟨s1, hs1, hF⟩ := swI hF
        refine isC h dX11_putNumber_32 kC_1 g1 hs1 ?_
        refine st_aload_0 h dX11_putNumber_33 ?_
        refine st_dup h rfl dX11_putNumber_34 ?_
        refine gX11_14 h fl_X11_91 dX11_putNumber_35 (congrArg Prod.fst kC_0) ?_
        refine st_ic_1 h dX11_putNumber_38 ?_
        refine st_iadd h dX11_putNumber_39 ?_
        obtain ⟨s2, hs2, hF⟩ := swI hF
        refine pX11_14 h fl_X11_91 dX11_putNumber_40 (congrArg Prod.fst kC_0) hs2 ?_
        refine st_iinc_2 (y := i2 + (-8)) h dX11_putNumber_43 (ii_m8 _) ?_
        refine st_goto (t := 3) h dX11_putNumber_46 (by decide) ?_
        exact st_sub (ls_s (ls_s (ls_s ls_e))) (ih s2 i1 (i2 + (-8)) z hF)
set_option maxRecDepth 100000 in
set_option maxHeartbeats 4000000 in
theorem w_X11_putNumber {l : Launch} {G : Gv} {σ : Sto} {i1 : Int32} {z : Sto} (hF : F_X11_putNumber σ i1 = some z) : Con l yX11_putNumber cX11_putNumber 3 none 1 G shC νC [.ref 0, .int i1] (ovC σ) none (ovC z) := by
  rw [F_X11_putNumber] at hF
  refine Con_enter (own := RX11) 1 (lv := [some (.ref 0), some (.int i1), none]) mi_X11_putNumber.2.2.2 rfl (Nat.le_of_ble_eq_true rfl) rfl (fun h hr hin => ?_)
  refine st_bipush (v := 24) h dX11_putNumber_0 (by decide) ?_
  refine st_istore_2 h dX11_putNumber_2 ?_
  exact st_sub (ls_s (ls_s (ls_s ls_e))) (w_X11_putNumber_3 h hr FU σ i1 24 z hF)
set_option maxRecDepth 100000 in
set_option maxHeartbeats 4000000 in
theorem w_X11_feed {l : Launch} {G : Gv} {σ : Sto} {i1 : Int32} {i2 : Int32} {i3 : Int32} {i4 : Int32} {i5 : Int32} {z : (Int32 × Sto)} (hF : F_X11_feed σ i1 i2 i3 i4 i5 = some z) : Con l yX11_feed cX11_feed 6 (some .int) 2 G shC νC [.ref 0, .int i1, .int i2, .int i3, .int i4, .int i5] (ovC σ) (some (.int z.1)) (ovC z.2) := by
  rw [F_X11_feed] at hF
  refine Con_enter (own := RX11) 0 (lv := [some (.ref 0), some (.int i1), some (.int i2), some (.int i3), some (.int i4), some (.int i5)]) mi_X11_feed.2.2.2 rfl (Nat.le_of_ble_eq_true rfl) rfl (fun h hr hin => ?_)
  refine st_aload_0 h dX11_feed_0 ?_
  refine gX11_14 h fl_X11_91 dX11_feed_1 (congrArg Prod.fst kC_0) ?_
  refine st_bipush (v := 20) h dX11_feed_4 (by decide) ?_
  refine st_iadd h dX11_feed_6 ?_
  refine st_sipush (v := 500) h dX11_feed_7 (by decide) ?_
  refine st_icmp_le (t := 15) h dX11_feed_10 (by decide) (fun q1 => ?_) (fun q1 => ?_)
  · have hF := pI q1 hF
    refine st_aload_0 h dX11_feed_15 ?_
    refine st_iload_1 h dX11_feed_16 ?_
    obtain ⟨x1, hx1, hF⟩ := bI hF
    refine st_cVv (vs := [.int i1]) (st := []) h (w_X11_putNumber hx1) mi_X11_putNumber mv_X11_putNumber ml_X11_95 dX11_feed_17 kC_0 rfl ⟨Nat.le_of_ble_eq_true rfl, Nat.le_of_ble_eq_true rfl⟩ (Nat.le_of_ble_eq_true rfl) rfl ?_
    refine st_aload_0 h dX11_feed_20 ?_
    refine st_iload_2 h dX11_feed_21 ?_
    obtain ⟨x2, hx2, hF⟩ := bI hF
    refine st_cVv (vs := [.int i2]) (st := []) h (w_X11_putNumber hx2) mi_X11_putNumber mv_X11_putNumber ml_X11_95 dX11_feed_22 kC_0 rfl ⟨Nat.le_of_ble_eq_true rfl, Nat.le_of_ble_eq_true rfl⟩ (Nat.le_of_ble_eq_true rfl) rfl ?_
    refine st_aload_0 h dX11_feed_25 ?_
    refine st_iload_3 h dX11_feed_26 ?_
    obtain ⟨x3, hx3, hF⟩ := bI hF
    refine st_cVv (vs := [.int i3]) (st := []) h (w_X11_putNumber hx3) mi_X11_putNumber mv_X11_putNumber ml_X11_95 dX11_feed_27 kC_0 rfl ⟨Nat.le_of_ble_eq_true rfl, Nat.le_of_ble_eq_true rfl⟩ (Nat.le_of_ble_eq_true rfl) rfl ?_
    refine st_aload_0 h dX11_feed_30 ?_
    refine st_iload_4 h dX11_feed_31 ?_
    obtain ⟨x4, hx4, hF⟩ := bI hF
    refine st_cVv (vs := [.int i4]) (st := []) h (w_X11_putNumber hx4) mi_X11_putNumber mv_X11_putNumber ml_X11_95 dX11_feed_33 kC_0 rfl ⟨Nat.le_of_ble_eq_true rfl, Nat.le_of_ble_eq_true rfl⟩ (Nat.le_of_ble_eq_true rfl) rfl ?_
    refine st_aload_0 h dX11_feed_36 ?_
    refine st_iload_5 h dX11_feed_37 ?_
    obtain ⟨x5, hx5, hF⟩ := bI hF
    refine st_cVv (vs := [.int i5]) (st := []) h (w_X11_putNumber hx5) mi_X11_putNumber mv_X11_putNumber ml_X11_95 dX11_feed_39 kC_0 rfl ⟨Nat.le_of_ble_eq_true rfl, Nat.le_of_ble_eq_true rfl⟩ (Nat.le_of_ble_eq_true rfl) rfl ?_
    refine st_aload_0 h dX11_feed_42 ?_
    refine gX11_14 h fl_X11_91 dX11_feed_43 (congrArg Prod.fst kC_0) ?_
    cases hF
    exact st_iret h hr dX11_feed_46
  · have hF := qI q1 hF
    refine st_ic_m1 h dX11_feed_13 ?_
    cases hF
    exact st_iret h hr dX11_feed_14
set_option maxRecDepth 100000 in
set_option maxHeartbeats 4000000 in
theorem w_X11_refuse {l : Launch} {G : Gv} {σ : Sto} {i1 : Int32} {z : (Int32 × Sto)} (hF : F_X11_refuse σ i1 = some z) : Con l yX11_refuse cX11_refuse 2 (some .int) 1 G shC νC [.ref 0, .int i1] (ovC σ) (some (.int z.1)) (ovC z.2) := by
  rw [F_X11_refuse] at hF
  refine Con_enter (own := RX11) 0 (lv := [some (.ref 0), some (.int i1)]) mi_X11_refuse.2.2.2 rfl (Nat.le_of_ble_eq_true rfl) rfl (fun h hr hin => ?_)
  refine st_aload_0 h dX11_refuse_0 ?_
  refine st_iload_1 h dX11_refuse_1 ?_
  obtain ⟨s1, hs1, hF⟩ := swI hF
  refine pX11_18 h fl_X11_128 dX11_refuse_2 (congrArg Prod.fst kC_0) hs1 ?_
  refine st_ic_m1 h dX11_refuse_5 ?_
  cases hF
  exact st_iret h hr dX11_refuse_6
set_option maxRecDepth 100000 in
set_option maxHeartbeats 4000000 in
theorem w_X9_clear_33 {p : Program} {l : Launch} {e : Env} {s : State} {m : MethodId} {args : Array Value} {below : List Frame} {meth : Method} {c : Code} {G : Gv} (h : Cx p s m args meth c G cX9_clear 2 RX9) (hr : meth.sig.returnType = none) : ∀ (n : Nat) (σ : Sto) (a0 : Nat) (i1 : Int32) (z : Sto), F_X9_clear_33 n σ a0 i1 = some z → AW p l e (rmD 1 0 0) s m args below meth c (MQ below (QcR G shC νC none (ovC z)) args s 0 0 (gA G)) 0 0 G 2 33 [some (.ref a0), some (.int i1)] [] shC νC (ovC σ) := by
  intro n
  induction n with
  | zero => intro σ a0 i1 z hF; cases hF
  | succ n ih =>
    intro σ a0 i1 z hF
    rw [F_X9_clear_33] at hF
    refine st_iload_1 h dX9_clear_33 ?_
    refine st_ic_4 h dX9_clear_34 ?_
    refine st_icmp_ge (t := 61) h dX9_clear_35 (by decide) (fun q1 => ?_) (fun q1 => ?_)
    · have hF := pI q1 hF
      cases hF
      exact st_vret h hr dX9_clear_61
    · have hF := qI q1 hF
      refine st_aload_0 h dX9_clear_38 ?_
      obtain ⟨g1, hF⟩ := gI hF
      refine gX9_5 h fl_X9_22 dX9_clear_39 g1 ?_
      refine st_iload_1 h dX9_clear_42 ?_
      refine st_iload_1 h dX9_clear_43 ?_
      refine st_ic_2 h dX9_clear_44 ?_
      refine st_icmp_ne (t := 53) h dX9_clear_45 (by decide) (fun q2 => ?_) (fun q2 => ?_)
      · have hF := qI q2 hF
        refine st_ic_0 h dX9_clear_53 ?_
        obtain ⟨g2, hF⟩ := gI hF
        obtain ⟨s1, hs1, hF⟩ := swI hF
        refine isC h dX9_clear_54 (sk_9_5 g1) g2 hs1 ?_
        refine st_iinc_1 (y := i1 + 1) h dX9_clear_55 (ii_1 _) ?_
        refine st_goto (t := 33) h dX9_clear_58 (by decide) ?_
        exact st_sub (ls_s (ls_s ls_e)) (ih s1 a0 (i1 + 1) z hF)
      · have hF := pI q2 hF
        refine st_bipush (v := 10) h dX9_clear_48 (by decide) ?_
        refine st_goto (t := 54) h dX9_clear_50 (by decide) ?_
        obtain ⟨g3, hF⟩ := gI hF
        obtain ⟨s2, hs2, hF⟩ := swI hF
        refine isC h dX9_clear_54 (sk_9_5 g1) g3 hs2 ?_
        refine st_iinc_1 (y := i1 + 1) h dX9_clear_55 (ii_1 _) ?_
        refine st_goto (t := 33) h dX9_clear_58 (by decide) ?_
        exact st_sub (ls_s (ls_s ls_e)) (ih s2 a0 (i1 + 1) z hF)
set_option maxRecDepth 100000 in
set_option maxHeartbeats 4000000 in
theorem w_X9_clear_12 {p : Program} {l : Launch} {e : Env} {s : State} {m : MethodId} {args : Array Value} {below : List Frame} {meth : Method} {c : Code} {G : Gv} (h : Cx p s m args meth c G cX9_clear 2 RX9) (hr : meth.sig.returnType = none) : ∀ (n : Nat) (σ : Sto) (a0 : Nat) (i1 : Int32) (z : Sto), F_X9_clear_12 n σ a0 i1 = some z → AW p l e (rmD 1 0 0) s m args below meth c (MQ below (QcR G shC νC none (ovC z)) args s 0 0 (gA G)) 0 0 G 2 12 [some (.ref a0), some (.int i1)] [] shC νC (ovC σ) := by
  intro n
  induction n with
  | zero => intro σ a0 i1 z hF; cases hF
  | succ n ih =>
    intro σ a0 i1 z hF
    rw [F_X9_clear_12] at hF
    refine st_iload_1 h dX9_clear_12 ?_
    refine st_bipush (v := 24) h dX9_clear_13 (by decide) ?_
    refine st_icmp_ge (t := 31) h dX9_clear_15 (by decide) (fun q1 => ?_) (fun q1 => ?_)
    · have hF := pI q1 hF
      refine st_ic_0 h dX9_clear_31 ?_
      refine st_istore_1 h dX9_clear_32 ?_
      exact st_sub (ls_s (ls_s ls_e)) (w_X9_clear_33 h hr FU σ a0 0 z hF)
    · have hF := qI q1 hF
      refine st_aload_0 h dX9_clear_18 ?_
      obtain ⟨g1, hF⟩ := gI hF
      refine gX9_3 h fl_X9_15 dX9_clear_19 g1 ?_
      refine st_iload_1 h dX9_clear_22 ?_
      refine st_ic_0 h dX9_clear_23 ?_
      obtain ⟨g2, hF⟩ := gI hF
      obtain ⟨s1, hs1, hF⟩ := swI hF
      refine isC h dX9_clear_24 (sk_9_3 g1) g2 hs1 ?_
      refine st_iinc_1 (y := i1 + 1) h dX9_clear_25 (ii_1 _) ?_
      refine st_goto (t := 12) h dX9_clear_28 (by decide) ?_
      exact st_sub (ls_s (ls_s ls_e)) (ih s1 a0 (i1 + 1) z hF)
set_option maxRecDepth 100000 in
set_option maxHeartbeats 4000000 in
theorem w_X9_clear {l : Launch} {G : Gv} {σ : Sto} {a0 : Nat} {z : Sto} (hF : F_X9_clear σ a0 = some z) : Con l yX9_clear cX9_clear 2 none 1 G shC νC [.ref a0] (ovC σ) none (ovC z) := by
  rw [F_X9_clear] at hF
  refine Con_enter (own := RX9) 1 (lv := [some (.ref a0), none]) mi_X9_clear.2.2.2 rfl (Nat.le_of_ble_eq_true rfl) rfl (fun h hr hin => ?_)
  refine st_aload_0 h dX9_clear_0 ?_
  refine st_ic_0 h dX9_clear_1 ?_
  obtain ⟨g1, hF⟩ := gI hF
  obtain ⟨s1, hs1, hF⟩ := swI hF
  refine pX9_0 h fl_X9_34 dX9_clear_2 g1 hs1 ?_
  refine st_aload_0 h dX9_clear_5 ?_
  refine st_ic_0 h dX9_clear_6 ?_
  obtain ⟨s2, hs2, hF⟩ := swI hF
  refine pX9_1 h fl_X9_38 dX9_clear_7 g1 hs2 ?_
  refine st_ic_0 h dX9_clear_10 ?_
  refine st_istore_1 h dX9_clear_11 ?_
  exact st_sub (ls_s (ls_s ls_e)) (w_X9_clear_12 h hr FU s2 a0 0 z hF)
set_option maxRecDepth 100000 in
set_option maxHeartbeats 4000000 in
theorem w_X6_isLetter {l : Launch} {G : Gv} {σ : Sto} {i0 : Int32} {z : Int32} (hF : F_X6_isLetter σ i0 = some z) : Con l yX6_isLetter cX6_isLetter 1 (some .boolean) 1 G shC νC [.int i0] (ovC σ) (some (.int z)) (ovC σ) := by
  rw [F_X6_isLetter] at hF
  refine Con_enter (own := RX6) 0 (lv := [some (.int i0)]) mi_X6_isLetter.2.2.2 rfl (Nat.le_of_ble_eq_true rfl) rfl (fun h hr hin => ?_)
  refine st_iload_0 h dX6_isLetter_0 ?_
  refine st_bipush (v := 97) h dX6_isLetter_1 (by decide) ?_
  refine st_icmp_lt (t := 16) h dX6_isLetter_3 (by decide) (fun q1 => ?_) (fun q1 => ?_)
  · have hF := pI q1 hF
    refine st_ic_0 h dX6_isLetter_16 ?_
    cases hF
    exact st_zret h hr (Or.inl rfl) dX6_isLetter_17
  · have hF := qI q1 hF
    refine st_iload_0 h dX6_isLetter_6 ?_
    refine st_bipush (v := 122) h dX6_isLetter_7 (by decide) ?_
    refine st_icmp_gt (t := 16) h dX6_isLetter_9 (by decide) (fun q2 => ?_) (fun q2 => ?_)
    · have hF := pI q2 hF
      refine st_ic_0 h dX6_isLetter_16 ?_
      cases hF
      exact st_zret h hr (Or.inl rfl) dX6_isLetter_17
    · have hF := qI q2 hF
      refine st_ic_1 h dX6_isLetter_12 ?_
      refine st_goto (t := 17) h dX6_isLetter_13 (by decide) ?_
      cases hF
      exact st_zret h hr (Or.inr rfl) dX6_isLetter_17
set_option maxRecDepth 100000 in
set_option maxHeartbeats 4000000 in
theorem w_X6_isDigit {l : Launch} {G : Gv} {σ : Sto} {i0 : Int32} {z : Int32} (hF : F_X6_isDigit σ i0 = some z) : Con l yX6_isDigit cX6_isDigit 1 (some .boolean) 1 G shC νC [.int i0] (ovC σ) (some (.int z)) (ovC σ) := by
  rw [F_X6_isDigit] at hF
  refine Con_enter (own := RX6) 0 (lv := [some (.int i0)]) mi_X6_isDigit.2.2.2 rfl (Nat.le_of_ble_eq_true rfl) rfl (fun h hr hin => ?_)
  refine st_iload_0 h dX6_isDigit_0 ?_
  refine st_bipush (v := 48) h dX6_isDigit_1 (by decide) ?_
  refine st_icmp_lt (t := 16) h dX6_isDigit_3 (by decide) (fun q1 => ?_) (fun q1 => ?_)
  · have hF := pI q1 hF
    refine st_ic_0 h dX6_isDigit_16 ?_
    cases hF
    exact st_zret h hr (Or.inl rfl) dX6_isDigit_17
  · have hF := qI q1 hF
    refine st_iload_0 h dX6_isDigit_6 ?_
    refine st_bipush (v := 57) h dX6_isDigit_7 (by decide) ?_
    refine st_icmp_gt (t := 16) h dX6_isDigit_9 (by decide) (fun q2 => ?_) (fun q2 => ?_)
    · have hF := pI q2 hF
      refine st_ic_0 h dX6_isDigit_16 ?_
      cases hF
      exact st_zret h hr (Or.inl rfl) dX6_isDigit_17
    · have hF := qI q2 hF
      refine st_ic_1 h dX6_isDigit_12 ?_
      refine st_goto (t := 17) h dX6_isDigit_13 (by decide) ?_
      cases hF
      exact st_zret h hr (Or.inr rfl) dX6_isDigit_17
set_option maxRecDepth 100000 in
set_option maxHeartbeats 4000000 in
theorem w_X6_takeWhole_68 {p : Program} {l : Launch} {e : Env} {s : State} {m : MethodId} {args : Array Value} {below : List Frame} {meth : Method} {c : Code} {G : Gv} (h : Cx p s m args meth c G cX6_takeWhole 1 RX6) (hr : meth.sig.returnType = none) : ∀ (σ : Sto) (z : Sto), F_X6_takeWhole_68 σ  = some z → AW p l e (rmD 2 0 0) s m args below meth c (MQ below (QcR G shC νC none (ovC z)) args s 0 0 (gA G)) 0 0 G 1 68 [some (.ref 2)] [] shC νC (ovC σ) := by
  intro σ z hF
  rw [F_X6_takeWhole_68] at hF
  refine st_aload_0 h dX6_takeWhole_68 ?_
  refine st_aload_0 h dX6_takeWhole_69 ?_
  refine gX6_2 h fl_X6_19 dX6_takeWhole_70 (congrArg Prod.fst kC_2) ?_
  refine st_aload_0 h dX6_takeWhole_73 ?_
  refine gX6_4 h fl_X6_57 dX6_takeWhole_74 (congrArg Prod.fst kC_2) ?_
  refine st_isub h dX6_takeWhole_77 ?_
  refine st_ic_3 h dX6_takeWhole_78 ?_
  refine st_icmp_le (t := 86) h dX6_takeWhole_79 (by decide) (fun q1 => ?_) (fun q1 => ?_)
  · have hF := pI q1 hF
    refine st_ic_2 h dX6_takeWhole_86 ?_
    obtain ⟨s1, hs1, hF⟩ := swI hF
    refine pX6_3 h fl_X6_47 dX6_takeWhole_87 (congrArg Prod.fst kC_2) hs1 ?_
    cases hF
    exact st_vret h hr dX6_takeWhole_90
  · have hF := qI q1 hF
    refine st_ic_5 h dX6_takeWhole_82 ?_
    refine st_goto (t := 87) h dX6_takeWhole_83 (by decide) ?_
    obtain ⟨s2, hs2, hF⟩ := swI hF
    refine pX6_3 h fl_X6_47 dX6_takeWhole_87 (congrArg Prod.fst kC_2) hs2 ?_
    cases hF
    exact st_vret h hr dX6_takeWhole_90
set_option maxRecDepth 100000 in
set_option maxHeartbeats 4000000 in
theorem w_X6_takeWhole_5 {p : Program} {l : Launch} {e : Env} {s : State} {m : MethodId} {args : Array Value} {below : List Frame} {meth : Method} {c : Code} {G : Gv} (h : Cx p s m args meth c G cX6_takeWhole 1 RX6) (hr : meth.sig.returnType = none) : ∀ (n : Nat) (σ : Sto) (z : Sto), F_X6_takeWhole_5 n σ  = some z → AW p l e (rmD 2 0 0) s m args below meth c (MQ below (QcR G shC νC none (ovC z)) args s 0 0 (gA G)) 0 0 G 1 5 [some (.ref 2)] [] shC νC (ovC σ) := by
  intro n
  induction n with
  | zero => intro σ z hF; cases hF
  | succ n ih =>
    intro σ z hF
    rw [F_X6_takeWhole_5] at hF
    refine st_aload_0 h dX6_takeWhole_5 ?_
    refine gX6_2 h fl_X6_19 dX6_takeWhole_6 (congrArg Prod.fst kC_2) ?_
    refine st_aload_0 h dX6_takeWhole_9 ?_
    refine gX6_1 h fl_X6_15 dX6_takeWhole_10 (congrArg Prod.fst kC_2) ?_
    refine st_icmp_ge (t := 68) h dX6_takeWhole_13 (by decide) (fun q1 => ?_) (fun q1 => ?_)
    · have hF := pI q1 hF
      exact st_sub (ls_s ls_e) (w_X6_takeWhole_68 h hr σ  z hF)
    · have hF := qI q1 hF
      refine st_aload_0 h dX6_takeWhole_16 ?_
      obtain ⟨x1, hx1, hF⟩ := bI hF
      refine gX6_0 h fl_X6_9 dX6_takeWhole_17 hx1 ?_
      refine st_aload_0 h dX6_takeWhole_20 ?_
      refine gX6_2 h fl_X6_19 dX6_takeWhole_21 (congrArg Prod.fst kC_2) ?_
      obtain ⟨g1, hF⟩ := gI hF
      obtain ⟨g2, hF⟩ := gI hF
      refine iaC h dX6_takeWhole_24 g1 g2 ?_
      obtain ⟨x2, hx2, hF⟩ := bI hF
      refine st_cSi (vs := [.int (σ.1 x1 (ix (σ.1 2 2)))]) (st := []) h (w_X6_isDigit hx2) mi_X6_isDigit ms_X6_isDigit ml_X6_66 dX6_takeWhole_25 rfl ⟨Nat.le_of_ble_eq_true rfl, Nat.le_of_ble_eq_true rfl⟩ (Nat.le_of_ble_eq_true rfl) rfl ?_
      refine st_if_eq (t := 68) h dX6_takeWhole_28 (by decide) (fun q2 => ?_) (fun q2 => ?_)
      · have hF := pI q2 hF
        exact st_sub (ls_s ls_e) (w_X6_takeWhole_68 h hr σ  z hF)
      · have hF := qI q2 hF
        refine st_aload_0 h dX6_takeWhole_31 ?_
        refine st_aload_0 h dX6_takeWhole_32 ?_
        refine gX6_5 h fl_X6_76 dX6_takeWhole_33 (congrArg Prod.fst kC_2) ?_
        refine st_bipush (v := 10) h dX6_takeWhole_36 (by decide) ?_
        refine st_imul h dX6_takeWhole_38 ?_
        refine st_aload_0 h dX6_takeWhole_39 ?_
        obtain ⟨x3, hx3, hF⟩ := bI hF
        refine gX6_0 h fl_X6_9 dX6_takeWhole_40 hx3 ?_
        refine st_aload_0 h dX6_takeWhole_43 ?_
        refine gX6_2 h fl_X6_19 dX6_takeWhole_44 (congrArg Prod.fst kC_2) ?_
        obtain ⟨g3, hF⟩ := gI hF
        refine iaC h dX6_takeWhole_47 g3 g2 ?_
        refine st_iadd h dX6_takeWhole_48 ?_
        refine st_bipush (v := 48) h dX6_takeWhole_49 (by decide) ?_
        refine st_isub h dX6_takeWhole_51 ?_
        obtain ⟨s1, hs1, hF⟩ := swI hF
        refine pX6_5 h fl_X6_76 dX6_takeWhole_52 (congrArg Prod.fst kC_2) hs1 ?_
        refine st_aload_0 h dX6_takeWhole_55 ?_
        refine st_dup h rfl dX6_takeWhole_56 ?_
        refine gX6_2 h fl_X6_19 dX6_takeWhole_57 (congrArg Prod.fst kC_2) ?_
        refine st_ic_1 h dX6_takeWhole_60 ?_
        refine st_iadd h dX6_takeWhole_61 ?_
        obtain ⟨s2, hs2, hF⟩ := swI hF
        refine pX6_2 h fl_X6_19 dX6_takeWhole_62 (congrArg Prod.fst kC_2) hs2 ?_
        refine st_goto (t := 5) h dX6_takeWhole_65 (by decide) ?_
        exact st_sub (ls_s ls_e) (ih s2  z hF)
set_option maxRecDepth 100000 in
set_option maxHeartbeats 4000000 in
theorem w_X6_takeWhole {l : Launch} {G : Gv} {σ : Sto} {z : Sto} (hF : F_X6_takeWhole σ  = some z) : Con l yX6_takeWhole cX6_takeWhole 1 none 2 G shC νC [.ref 2] (ovC σ) none (ovC z) := by
  rw [F_X6_takeWhole] at hF
  refine Con_enter (own := RX6) 0 (lv := [some (.ref 2)]) mi_X6_takeWhole.2.2.2 rfl (Nat.le_of_ble_eq_true rfl) rfl (fun h hr hin => ?_)
  refine st_aload_0 h dX6_takeWhole_0 ?_
  refine st_ic_0 h dX6_takeWhole_1 ?_
  obtain ⟨s1, hs1, hF⟩ := swI hF
  refine pX6_5 h fl_X6_76 dX6_takeWhole_2 (congrArg Prod.fst kC_2) hs1 ?_
  exact st_sub (ls_s ls_e) (w_X6_takeWhole_5 h hr FU s1  z hF)
set_option maxRecDepth 100000 in
set_option maxHeartbeats 4000000 in
theorem w_X6_takeWord_70 {p : Program} {l : Launch} {e : Env} {s : State} {m : MethodId} {args : Array Value} {below : List Frame} {meth : Method} {c : Code} {G : Gv} (h : Cx p s m args meth c G cX6_takeWord 1 RX6) (hr : meth.sig.returnType = none) : ∀ (σ : Sto) (z : Sto), F_X6_takeWord_70 σ  = some z → AW p l e (rmD 2 0 0) s m args below meth c (MQ below (QcR G shC νC none (ovC z)) args s 0 0 (gA G)) 0 0 G 1 70 [some (.ref 2)] [] shC νC (ovC σ) := by
  intro σ z hF
  rw [F_X6_takeWord_70] at hF
  refine st_aload_0 h dX6_takeWord_70 ?_
  refine st_aload_0 h dX6_takeWord_71 ?_
  refine gX6_2 h fl_X6_19 dX6_takeWord_72 (congrArg Prod.fst kC_2) ?_
  refine st_aload_0 h dX6_takeWord_75 ?_
  refine gX6_4 h fl_X6_57 dX6_takeWord_76 (congrArg Prod.fst kC_2) ?_
  refine st_isub h dX6_takeWord_79 ?_
  refine st_bipush (v := 7) h dX6_takeWord_80 (by decide) ?_
  refine st_icmp_le (t := 89) h dX6_takeWord_82 (by decide) (fun q1 => ?_) (fun q1 => ?_)
  · have hF := pI q1 hF
    refine st_ic_1 h dX6_takeWord_89 ?_
    obtain ⟨s1, hs1, hF⟩ := swI hF
    refine pX6_3 h fl_X6_47 dX6_takeWord_90 (congrArg Prod.fst kC_2) hs1 ?_
    cases hF
    exact st_vret h hr dX6_takeWord_93
  · have hF := qI q1 hF
    refine st_ic_5 h dX6_takeWord_85 ?_
    refine st_goto (t := 90) h dX6_takeWord_86 (by decide) ?_
    obtain ⟨s2, hs2, hF⟩ := swI hF
    refine pX6_3 h fl_X6_47 dX6_takeWord_90 (congrArg Prod.fst kC_2) hs2 ?_
    cases hF
    exact st_vret h hr dX6_takeWord_93
set_option maxRecDepth 100000 in
set_option maxHeartbeats 4000000 in
theorem w_X6_takeWord_5 {p : Program} {l : Launch} {e : Env} {s : State} {m : MethodId} {args : Array Value} {below : List Frame} {meth : Method} {c : Code} {G : Gv} (h : Cx p s m args meth c G cX6_takeWord 1 RX6) (hr : meth.sig.returnType = none) : ∀ (n : Nat) (σ : Sto) (z : Sto), F_X6_takeWord_5 n σ  = some z → AW p l e (rmD 2 0 0) s m args below meth c (MQ below (QcR G shC νC none (ovC z)) args s 0 0 (gA G)) 0 0 G 1 5 [some (.ref 2)] [] shC νC (ovC σ) := by
  intro n
  induction n with
  | zero => intro σ z hF; cases hF
  | succ n ih =>
    intro σ z hF
    rw [F_X6_takeWord_5] at hF
    refine st_aload_0 h dX6_takeWord_5 ?_
    refine gX6_2 h fl_X6_19 dX6_takeWord_6 (congrArg Prod.fst kC_2) ?_
    refine st_aload_0 h dX6_takeWord_9 ?_
    refine gX6_1 h fl_X6_15 dX6_takeWord_10 (congrArg Prod.fst kC_2) ?_
    refine st_icmp_ge (t := 70) h dX6_takeWord_13 (by decide) (fun q1 => ?_) (fun q1 => ?_)
    · have hF := pI q1 hF
      exact st_sub (ls_s ls_e) (w_X6_takeWord_70 h hr σ  z hF)
    · have hF := qI q1 hF
      refine st_aload_0 h dX6_takeWord_16 ?_
      obtain ⟨x1, hx1, hF⟩ := bI hF
      refine gX6_0 h fl_X6_9 dX6_takeWord_17 hx1 ?_
      refine st_aload_0 h dX6_takeWord_20 ?_
      refine gX6_2 h fl_X6_19 dX6_takeWord_21 (congrArg Prod.fst kC_2) ?_
      obtain ⟨g1, hF⟩ := gI hF
      obtain ⟨g2, hF⟩ := gI hF
      refine iaC h dX6_takeWord_24 g1 g2 ?_
      obtain ⟨x2, hx2, hF⟩ := bI hF
      refine st_cSi (vs := [.int (σ.1 x1 (ix (σ.1 2 2)))]) (st := []) h (w_X6_isLetter hx2) mi_X6_isLetter ms_X6_isLetter ml_X6_60 dX6_takeWord_25 rfl ⟨Nat.le_of_ble_eq_true rfl, Nat.le_of_ble_eq_true rfl⟩ (Nat.le_of_ble_eq_true rfl) rfl ?_
      refine st_if_eq (t := 70) h dX6_takeWord_28 (by decide) (fun q2 => ?_) (fun q2 => ?_)
      · have hF := pI q2 hF
        exact st_sub (ls_s ls_e) (w_X6_takeWord_70 h hr σ  z hF)
      · have hF := qI q2 hF
        refine st_aload_0 h dX6_takeWord_31 ?_
        refine st_aload_0 h dX6_takeWord_32 ?_
        refine gX6_6 h fl_X6_72 dX6_takeWord_33 (congrArg Prod.fst kC_2) ?_
        refine st_ic_5 h dX6_takeWord_36 ?_
        refine st_lshl h dX6_takeWord_37 ?_
        refine st_aload_0 h dX6_takeWord_38 ?_
        obtain ⟨x3, hx3, hF⟩ := bI hF
        refine gX6_0 h fl_X6_9 dX6_takeWord_39 hx3 ?_
        refine st_aload_0 h dX6_takeWord_42 ?_
        refine gX6_2 h fl_X6_19 dX6_takeWord_43 (congrArg Prod.fst kC_2) ?_
        obtain ⟨g3, hF⟩ := gI hF
        refine iaC h dX6_takeWord_46 g3 g2 ?_
        refine st_bipush (v := 97) h dX6_takeWord_47 (by decide) ?_
        refine st_isub h dX6_takeWord_49 ?_
        refine st_ic_1 h dX6_takeWord_50 ?_
        refine st_iadd h dX6_takeWord_51 ?_
        refine st_i2l h dX6_takeWord_52 ?_
        refine st_lor h dX6_takeWord_53 ?_
        obtain ⟨s1, hs1, hF⟩ := swI hF
        refine pX6_6 h fl_X6_72 dX6_takeWord_54 (congrArg Prod.fst kC_2) hs1 ?_
        refine st_aload_0 h dX6_takeWord_57 ?_
        refine st_dup h rfl dX6_takeWord_58 ?_
        refine gX6_2 h fl_X6_19 dX6_takeWord_59 (congrArg Prod.fst kC_2) ?_
        refine st_ic_1 h dX6_takeWord_62 ?_
        refine st_iadd h dX6_takeWord_63 ?_
        obtain ⟨s2, hs2, hF⟩ := swI hF
        refine pX6_2 h fl_X6_19 dX6_takeWord_64 (congrArg Prod.fst kC_2) hs2 ?_
        refine st_goto (t := 5) h dX6_takeWord_67 (by decide) ?_
        exact st_sub (ls_s ls_e) (ih s2  z hF)
set_option maxRecDepth 100000 in
set_option maxHeartbeats 4000000 in
theorem w_X6_takeWord {l : Launch} {G : Gv} {σ : Sto} {z : Sto} (hF : F_X6_takeWord σ  = some z) : Con l yX6_takeWord cX6_takeWord 1 none 2 G shC νC [.ref 2] (ovC σ) none (ovC z) := by
  rw [F_X6_takeWord] at hF
  refine Con_enter (own := RX6) 0 (lv := [some (.ref 2)]) mi_X6_takeWord.2.2.2 rfl (Nat.le_of_ble_eq_true rfl) rfl (fun h hr hin => ?_)
  refine st_aload_0 h dX6_takeWord_0 ?_
  refine st_lconst (v := 0) h dX6_takeWord_1 (by decide) ?_
  obtain ⟨s1, hs1, hF⟩ := swI hF
  refine pX6_6 h fl_X6_72 dX6_takeWord_2 (congrArg Prod.fst kC_2) hs1 ?_
  exact st_sub (ls_s ls_e) (w_X6_takeWord_5 h hr FU s1  z hF)
set_option maxRecDepth 100000 in
set_option maxHeartbeats 4000000 in
theorem w_X6_advance_147 {p : Program} {l : Launch} {e : Env} {s : State} {m : MethodId} {args : Array Value} {below : List Frame} {meth : Method} {c : Code} {G : Gv} (h : Cx p s m args meth c G cX6_advance 1 RX6) (hr : meth.sig.returnType = none) : ∀ (σ : Sto) (e1 : Int32) (z : Sto), F_X6_advance_147 σ e1 = some z → AW p l e (rmD 3 0 0) s m args below meth c (MQ below (QcR G shC νC none (ovC z)) args s 0 0 (gA G)) 0 0 G 1 147 [some (.ref 2)] [.int e1, .ref 2] shC νC (ovC σ) := by
  intro σ e1 z hF
  rw [F_X6_advance_147] at hF
  obtain ⟨s1, hs1, hF⟩ := swI hF
  refine pX6_3 h fl_X6_47 dX6_advance_147 (congrArg Prod.fst kC_2) hs1 ?_
  refine st_aload_0 h dX6_advance_150 ?_
  refine st_dup h rfl dX6_advance_151 ?_
  refine gX6_2 h fl_X6_19 dX6_advance_152 (congrArg Prod.fst kC_2) ?_
  refine st_ic_1 h dX6_advance_155 ?_
  refine st_iadd h dX6_advance_156 ?_
  obtain ⟨s2, hs2, hF⟩ := swI hF
  refine pX6_2 h fl_X6_19 dX6_advance_157 (congrArg Prod.fst kC_2) hs2 ?_
  cases hF
  exact st_vret h hr dX6_advance_160
set_option maxRecDepth 100000 in
set_option maxHeartbeats 4000000 in
theorem w_X6_advance_38 {p : Program} {l : Launch} {e : Env} {s : State} {m : MethodId} {args : Array Value} {below : List Frame} {meth : Method} {c : Code} {G : Gv} (h : Cx p s m args meth c G cX6_advance 1 RX6) (hr : meth.sig.returnType = none) : ∀ (σ : Sto) (z : Sto), F_X6_advance_38 σ  = some z → AW p l e (rmD 3 0 0) s m args below meth c (MQ below (QcR G shC νC none (ovC z)) args s 0 0 (gA G)) 0 0 G 1 38 [some (.ref 2)] [] shC νC (ovC σ) := by
  intro σ z hF
  rw [F_X6_advance_38] at hF
  refine st_aload_0 h dX6_advance_38 ?_
  refine st_aload_0 h dX6_advance_39 ?_
  refine gX6_2 h fl_X6_19 dX6_advance_40 (congrArg Prod.fst kC_2) ?_
  obtain ⟨s1, hs1, hF⟩ := swI hF
  refine pX6_4 h fl_X6_57 dX6_advance_43 (congrArg Prod.fst kC_2) hs1 ?_
  refine st_aload_0 h dX6_advance_46 ?_
  refine gX6_2 h fl_X6_19 dX6_advance_47 (congrArg Prod.fst kC_2) ?_
  refine st_aload_0 h dX6_advance_50 ?_
  refine gX6_1 h fl_X6_15 dX6_advance_51 (congrArg Prod.fst kC_2) ?_
  refine st_icmp_lt (t := 65) h dX6_advance_54 (by decide) (fun q1 => ?_) (fun q1 => ?_)
  · have hF := pI q1 hF
    refine st_aload_0 h dX6_advance_65 ?_
    obtain ⟨x1, hx1, hF⟩ := bI hF
    refine gX6_0 h fl_X6_9 dX6_advance_66 hx1 ?_
    refine st_aload_0 h dX6_advance_69 ?_
    refine gX6_2 h fl_X6_19 dX6_advance_70 (congrArg Prod.fst kC_2) ?_
    obtain ⟨g1, hF⟩ := gI hF
    obtain ⟨g2, hF⟩ := gI hF
    refine iaC h dX6_advance_73 g1 g2 ?_
    obtain ⟨x2, hx2, hF⟩ := bI hF
    refine st_cSi (vs := [.int (s1.1 x1 (ix (s1.1 2 2)))]) (st := []) h (w_X6_isLetter hx2) mi_X6_isLetter ms_X6_isLetter ml_X6_60 dX6_advance_74 rfl ⟨Nat.le_of_ble_eq_true rfl, Nat.le_of_ble_eq_true rfl⟩ (Nat.le_of_ble_eq_true rfl) rfl ?_
    refine st_if_eq (t := 87) h dX6_advance_77 (by decide) (fun q2 => ?_) (fun q2 => ?_)
    · have hF := pI q2 hF
      refine st_aload_0 h dX6_advance_87 ?_
      obtain ⟨x3, hx3, hF⟩ := bI hF
      refine gX6_0 h fl_X6_9 dX6_advance_88 hx3 ?_
      refine st_aload_0 h dX6_advance_91 ?_
      refine gX6_2 h fl_X6_19 dX6_advance_92 (congrArg Prod.fst kC_2) ?_
      obtain ⟨g3, hF⟩ := gI hF
      refine iaC h dX6_advance_95 g3 g2 ?_
      obtain ⟨x4, hx4, hF⟩ := bI hF
      refine st_cSi (vs := [.int (s1.1 x3 (ix (s1.1 2 2)))]) (st := []) h (w_X6_isDigit hx4) mi_X6_isDigit ms_X6_isDigit ml_X6_66 dX6_advance_96 rfl ⟨Nat.le_of_ble_eq_true rfl, Nat.le_of_ble_eq_true rfl⟩ (Nat.le_of_ble_eq_true rfl) rfl ?_
      refine st_if_eq (t := 109) h dX6_advance_99 (by decide) (fun q3 => ?_) (fun q3 => ?_)
      · have hF := pI q3 hF
        refine st_aload_0 h dX6_advance_109 ?_
        refine st_aload_0 h dX6_advance_110 ?_
        obtain ⟨x5, hx5, hF⟩ := bI hF
        refine gX6_0 h fl_X6_9 dX6_advance_111 hx5 ?_
        refine st_aload_0 h dX6_advance_114 ?_
        refine gX6_2 h fl_X6_19 dX6_advance_115 (congrArg Prod.fst kC_2) ?_
        obtain ⟨g4, hF⟩ := gI hF
        refine iaC h dX6_advance_118 g4 g2 ?_
        refine st_bipush (v := 59) h dX6_advance_119 (by decide) ?_
        refine st_icmp_ne (t := 128) h dX6_advance_121 (by decide) (fun q4 => ?_) (fun q4 => ?_)
        · have hF := qI q4 hF
          refine st_aload_0 h dX6_advance_128 ?_
          obtain ⟨x6, hx6, hF⟩ := bI hF
          refine gX6_0 h fl_X6_9 dX6_advance_129 hx6 ?_
          refine st_aload_0 h dX6_advance_132 ?_
          refine gX6_2 h fl_X6_19 dX6_advance_133 (congrArg Prod.fst kC_2) ?_
          obtain ⟨g5, hF⟩ := gI hF
          refine iaC h dX6_advance_136 g5 g2 ?_
          refine st_bipush (v := 44) h dX6_advance_137 (by decide) ?_
          refine st_icmp_ne (t := 146) h dX6_advance_139 (by decide) (fun q5 => ?_) (fun q5 => ?_)
          · have hF := qI q5 hF
            refine st_ic_5 h dX6_advance_146 ?_
            exact st_sub (ls_s ls_e) (w_X6_advance_147 h hr s1 5 z hF)
          · have hF := pI q5 hF
            refine st_ic_4 h dX6_advance_142 ?_
            refine st_goto (t := 147) h dX6_advance_143 (by decide) ?_
            exact st_sub (ls_s ls_e) (w_X6_advance_147 h hr s1 4 z hF)
        · have hF := pI q4 hF
          refine st_ic_3 h dX6_advance_124 ?_
          refine st_goto (t := 147) h dX6_advance_125 (by decide) ?_
          exact st_sub (ls_s ls_e) (w_X6_advance_147 h hr s1 3 z hF)
      · have hF := qI q3 hF
        refine st_aload_0 h dX6_advance_102 ?_
        obtain ⟨x7, hx7, hF⟩ := bI hF
        refine st_cVv (vs := []) (st := []) h (w_X6_takeWhole hx7) mi_X6_takeWhole mv_X6_takeWhole ml_X6_69 dX6_advance_103 kC_2 rfl ⟨Nat.le_of_ble_eq_true rfl, Nat.le_of_ble_eq_true rfl⟩ (Nat.le_of_ble_eq_true rfl) rfl ?_
        refine st_goto (t := 160) h dX6_advance_106 (by decide) ?_
        cases hF
        exact st_vret h hr dX6_advance_160
    · have hF := qI q2 hF
      refine st_aload_0 h dX6_advance_80 ?_
      obtain ⟨x8, hx8, hF⟩ := bI hF
      refine st_cVv (vs := []) (st := []) h (w_X6_takeWord hx8) mi_X6_takeWord mv_X6_takeWord ml_X6_63 dX6_advance_81 kC_2 rfl ⟨Nat.le_of_ble_eq_true rfl, Nat.le_of_ble_eq_true rfl⟩ (Nat.le_of_ble_eq_true rfl) rfl ?_
      refine st_goto (t := 160) h dX6_advance_84 (by decide) ?_
      cases hF
      exact st_vret h hr dX6_advance_160
  · have hF := qI q1 hF
    refine st_aload_0 h dX6_advance_57 ?_
    refine st_ic_0 h dX6_advance_58 ?_
    obtain ⟨s2, hs2, hF⟩ := swI hF
    refine pX6_3 h fl_X6_47 dX6_advance_59 (congrArg Prod.fst kC_2) hs2 ?_
    refine st_goto (t := 160) h dX6_advance_62 (by decide) ?_
    cases hF
    exact st_vret h hr dX6_advance_160
set_option maxRecDepth 100000 in
set_option maxHeartbeats 4000000 in
theorem w_X6_advance_0 {p : Program} {l : Launch} {e : Env} {s : State} {m : MethodId} {args : Array Value} {below : List Frame} {meth : Method} {c : Code} {G : Gv} (h : Cx p s m args meth c G cX6_advance 1 RX6) (hr : meth.sig.returnType = none) : ∀ (n : Nat) (σ : Sto) (z : Sto), F_X6_advance_0 n σ  = some z → AW p l e (rmD 3 0 0) s m args below meth c (MQ below (QcR G shC νC none (ovC z)) args s 0 0 (gA G)) 0 0 G 1 0 [some (.ref 2)] [] shC νC (ovC σ) := by
  intro n
  induction n with
  | zero => intro σ z hF; cases hF
  | succ n ih =>
    intro σ z hF
    rw [F_X6_advance_0] at hF
    refine st_aload_0 h dX6_advance_0 ?_
    refine gX6_2 h fl_X6_19 dX6_advance_1 (congrArg Prod.fst kC_2) ?_
    refine st_aload_0 h dX6_advance_4 ?_
    refine gX6_1 h fl_X6_15 dX6_advance_5 (congrArg Prod.fst kC_2) ?_
    refine st_icmp_ge (t := 38) h dX6_advance_8 (by decide) (fun q1 => ?_) (fun q1 => ?_)
    · have hF := pI q1 hF
      exact st_sub (ls_s ls_e) (w_X6_advance_38 h hr σ  z hF)
    · have hF := qI q1 hF
      refine st_aload_0 h dX6_advance_11 ?_
      obtain ⟨x1, hx1, hF⟩ := bI hF
      refine gX6_0 h fl_X6_9 dX6_advance_12 hx1 ?_
      refine st_aload_0 h dX6_advance_15 ?_
      refine gX6_2 h fl_X6_19 dX6_advance_16 (congrArg Prod.fst kC_2) ?_
      obtain ⟨g1, hF⟩ := gI hF
      obtain ⟨g2, hF⟩ := gI hF
      refine iaC h dX6_advance_19 g1 g2 ?_
      refine st_bipush (v := 32) h dX6_advance_20 (by decide) ?_
      refine st_icmp_ne (t := 38) h dX6_advance_22 (by decide) (fun q2 => ?_) (fun q2 => ?_)
      · have hF := qI q2 hF
        exact st_sub (ls_s ls_e) (w_X6_advance_38 h hr σ  z hF)
      · have hF := pI q2 hF
        refine st_aload_0 h dX6_advance_25 ?_
        refine st_dup h rfl dX6_advance_26 ?_
        refine gX6_2 h fl_X6_19 dX6_advance_27 (congrArg Prod.fst kC_2) ?_
        refine st_ic_1 h dX6_advance_30 ?_
        refine st_iadd h dX6_advance_31 ?_
        obtain ⟨s1, hs1, hF⟩ := swI hF
        refine pX6_2 h fl_X6_19 dX6_advance_32 (congrArg Prod.fst kC_2) hs1 ?_
        refine st_goto (t := 0) h dX6_advance_35 (by decide) ?_
        exact st_sub (ls_s ls_e) (ih s1  z hF)
set_option maxRecDepth 100000 in
set_option maxHeartbeats 4000000 in
theorem w_X6_advance {l : Launch} {G : Gv} {σ : Sto} {z : Sto} (hF : F_X6_advance σ  = some z) : Con l yX6_advance cX6_advance 1 none 3 G shC νC [.ref 2] (ovC σ) none (ovC z) := by
  rw [F_X6_advance] at hF
  refine Con_enter (own := RX6) 0 (lv := [some (.ref 2)]) mi_X6_advance.2.2.2 rfl (Nat.le_of_ble_eq_true rfl) rfl (fun h hr hin => ?_)
  refine st_aload_0 h dX6_advance_0 ?_
  refine gX6_2 h fl_X6_19 dX6_advance_1 (congrArg Prod.fst kC_2) ?_
  refine st_aload_0 h dX6_advance_4 ?_
  refine gX6_1 h fl_X6_15 dX6_advance_5 (congrArg Prod.fst kC_2) ?_
  refine st_icmp_ge (t := 38) h dX6_advance_8 (by decide) (fun q1 => ?_) (fun q1 => ?_)
  · have hF := pI q1 hF
    exact st_sub (ls_s ls_e) (w_X6_advance_38 h hr σ  z hF)
  · have hF := qI q1 hF
    refine st_aload_0 h dX6_advance_11 ?_
    obtain ⟨x1, hx1, hF⟩ := bI hF
    refine gX6_0 h fl_X6_9 dX6_advance_12 hx1 ?_
    refine st_aload_0 h dX6_advance_15 ?_
    refine gX6_2 h fl_X6_19 dX6_advance_16 (congrArg Prod.fst kC_2) ?_
    obtain ⟨g1, hF⟩ := gI hF
    obtain ⟨g2, hF⟩ := gI hF
    refine iaC h dX6_advance_19 g1 g2 ?_
    refine st_bipush (v := 32) h dX6_advance_20 (by decide) ?_
    refine st_icmp_ne (t := 38) h dX6_advance_22 (by decide) (fun q2 => ?_) (fun q2 => ?_)
    · have hF := qI q2 hF
      exact st_sub (ls_s ls_e) (w_X6_advance_38 h hr σ  z hF)
    · have hF := pI q2 hF
      refine st_aload_0 h dX6_advance_25 ?_
      refine st_dup h rfl dX6_advance_26 ?_
      refine gX6_2 h fl_X6_19 dX6_advance_27 (congrArg Prod.fst kC_2) ?_
      refine st_ic_1 h dX6_advance_30 ?_
      refine st_iadd h dX6_advance_31 ?_
      obtain ⟨s1, hs1, hF⟩ := swI hF
      refine pX6_2 h fl_X6_19 dX6_advance_32 (congrArg Prod.fst kC_2) hs1 ?_
      refine st_goto (t := 0) h dX6_advance_35 (by decide) ?_
      exact st_sub (ls_s ls_e) (w_X6_advance_0 h hr FU s1  z hF)
set_option maxRecDepth 100000 in
set_option maxHeartbeats 4000000 in
theorem w_X6_isWord_5 {p : Program} {l : Launch} {e : Env} {s : State} {m : MethodId} {args : Array Value} {below : List Frame} {meth : Method} {c : Code} {G : Gv} (h : Cx p s m args meth c G cX6_isWord 5 RX6) (hr : meth.sig.returnType = (some .boolean)) : ∀ (n : Nat) (σ : Sto) (t1 : Nat) (l2 : Int64) (i4 : Int32) (z : Int32), F_X6_isWord_5 n σ t1 l2 i4 = some z → AW p l e (rmD 6 0 0) s m args below meth c (MQ below (QcR G shC νC (some (.int z)) (ovC σ)) args s 0 0 (gA G)) 0 0 G 5 5 [some (.ref 2), some (.retAddr t1), some (.long l2), none, some (.int i4)] [] shC νC (ovC σ) := by
  intro n
  induction n with
  | zero => intro σ t1 l2 i4 z hF; cases hF
  | succ n ih =>
    intro σ t1 l2 i4 z hF
    rw [F_X6_isWord_5] at hF
    refine st_iload_4 h dX6_isWord_5 ?_
    refine st_tload_1 h dX6_isWord_7 ?_
    obtain ⟨g1, hF⟩ := gI hF
    refine st_slen h ml_X6_79 dX6_isWord_8 g1 ⟨Nat.le_of_ble_eq_true rfl, Nat.le_of_ble_eq_true rfl⟩ (Nat.le_of_ble_eq_true rfl) ?_
    refine st_icmp_ge (t := 37) h dX6_isWord_11 (by decide) (fun q1 => ?_) (fun q1 => ?_)
    · have hF := pI q1 hF
      refine st_aload_0 h dX6_isWord_37 ?_
      refine gX6_3 h fl_X6_47 dX6_isWord_38 (congrArg Prod.fst kC_2) ?_
      refine st_ic_1 h dX6_isWord_41 ?_
      refine st_icmp_ne (t := 58) h dX6_isWord_42 (by decide) (fun q2 => ?_) (fun q2 => ?_)
      · have hF := qI q2 hF
        refine st_ic_0 h dX6_isWord_58 ?_
        cases hF
        exact st_zret h hr (Or.inl rfl) dX6_isWord_59
      · have hF := pI q2 hF
        refine st_aload_0 h dX6_isWord_45 ?_
        refine gX6_6 h fl_X6_72 dX6_isWord_46 (congrArg Prod.fst kC_2) ?_
        refine st_lload_2 h dX6_isWord_49 ?_
        refine st_lcmp h dX6_isWord_50 ?_
        refine st_if_ne (t := 58) h dX6_isWord_51 (by decide) (fun q3 => ?_) (fun q3 => ?_)
        · have hF := qI q3 hF
          refine st_ic_0 h dX6_isWord_58 ?_
          cases hF
          exact st_zret h hr (Or.inl rfl) dX6_isWord_59
        · have hF := pI q3 hF
          refine st_ic_1 h dX6_isWord_54 ?_
          refine st_goto (t := 59) h dX6_isWord_55 (by decide) ?_
          cases hF
          exact st_zret h hr (Or.inr rfl) dX6_isWord_59
    · have hF := qI q1 hF
      refine st_lload_2 h dX6_isWord_14 ?_
      refine st_ic_5 h dX6_isWord_15 ?_
      refine st_lshl h dX6_isWord_16 ?_
      refine st_tload_1 h dX6_isWord_17 ?_
      refine st_iload_4 h dX6_isWord_18 ?_
      obtain ⟨g2, hF⟩ := gI hF
      refine st_schar h ml_X6_85 dX6_isWord_20 g1 g2 ⟨Nat.le_of_ble_eq_true rfl, Nat.le_of_ble_eq_true rfl⟩ (Nat.le_of_ble_eq_true rfl) ?_
      refine st_bipush (v := 97) h dX6_isWord_23 (by decide) ?_
      refine st_isub h dX6_isWord_25 ?_
      refine st_ic_1 h dX6_isWord_26 ?_
      refine st_iadd h dX6_isWord_27 ?_
      refine st_i2l h dX6_isWord_28 ?_
      refine st_lor h dX6_isWord_29 ?_
      obtain ⟨v1, hv1, hF⟩ := swI hF
      refine st_nml hv1 ?_
      refine st_lstore_2 h dX6_isWord_30 ?_
      refine st_iinc_4 (y := i4 + 1) h dX6_isWord_31 (ii_1 _) ?_
      refine st_goto (t := 5) h dX6_isWord_34 (by decide) ?_
      exact st_sub (ls_s (ls_s (ls_s (ls_n (ls_s ls_e))))) (ih σ t1 v1 (i4 + 1) z hF)
set_option maxRecDepth 100000 in
set_option maxHeartbeats 4000000 in
theorem w_X6_isWord {l : Launch} {G : Gv} {σ : Sto} {t1 : Nat} {z : Int32} (hF : F_X6_isWord σ t1 = some z) : Con l yX6_isWord cX6_isWord 5 (some .boolean) 6 G shC νC [.ref 2, .retAddr t1] (ovC σ) (some (.int z)) (ovC σ) := by
  rw [F_X6_isWord] at hF
  refine Con_enter (own := RX6) 3 (lv := [some (.ref 2), some (.retAddr t1), none, none, none]) mi_X6_isWord.2.2.2 rfl (Nat.le_of_ble_eq_true rfl) rfl (fun h hr hin => ?_)
  refine st_lconst (v := 0) h dX6_isWord_0 (by decide) ?_
  refine st_lstore_2 h dX6_isWord_1 ?_
  refine st_ic_0 h dX6_isWord_2 ?_
  refine st_istore_4 h dX6_isWord_3 ?_
  exact st_sub (ls_s (ls_s (ls_s (ls_n (ls_s ls_e))))) (w_X6_isWord_5 h hr FU σ t1 0 0 z hF)
set_option maxRecDepth 100000 in
set_option maxHeartbeats 4000000 in
theorem w_X6_fail {l : Launch} {G : Gv} {σ : Sto} {i1 : Int32} {z : (Int32 × Sto)} (hF : F_X6_fail σ i1 = some z) : Con l yX6_fail cX6_fail 2 (some .boolean) 1 G shC νC [.ref 2, .int i1] (ovC σ) (some (.int z.1)) (ovC z.2) := by
  rw [F_X6_fail] at hF
  refine Con_enter (own := RX6) 0 (lv := [some (.ref 2), some (.int i1)]) mi_X6_fail.2.2.2 rfl (Nat.le_of_ble_eq_true rfl) rfl (fun h hr hin => ?_)
  refine st_aload_0 h dX6_fail_0 ?_
  refine st_iload_1 h dX6_fail_1 ?_
  obtain ⟨s1, hs1, hF⟩ := swI hF
  refine pX6_8 h fl_X6_25 dX6_fail_2 (congrArg Prod.fst kC_2) hs1 ?_
  refine st_aload_0 h dX6_fail_5 ?_
  refine st_aload_0 h dX6_fail_6 ?_
  refine gX6_4 h fl_X6_57 dX6_fail_7 (congrArg Prod.fst kC_2) ?_
  obtain ⟨s2, hs2, hF⟩ := swI hF
  refine pX6_9 h fl_X6_28 dX6_fail_10 (congrArg Prod.fst kC_2) hs2 ?_
  refine st_ic_0 h dX6_fail_13 ?_
  cases hF
  exact st_zret h hr (Or.inl rfl) dX6_fail_14
set_option maxRecDepth 100000 in
set_option maxHeartbeats 4000000 in
theorem w_X6_wordOfRule {l : Launch} {G : Gv} {σ : Sto} {i0 : Int32} {z : Nat} (hF : F_X6_wordOfRule σ i0 = some z) : Con l yX6_wordOfRule cX6_wordOfRule 1 (some (.object "java/lang/String")) 1 G shC νC [.int i0] (ovC σ) (some (.retAddr z)) (ovC σ) := by
  rw [F_X6_wordOfRule] at hF
  refine Con_enter (own := RX6) 0 (lv := [some (.int i0)]) mi_X6_wordOfRule.2.2.2 rfl (Nat.le_of_ble_eq_true rfl) rfl (fun h hr hin => ?_)
  refine st_iload_0 h dX6_wordOfRule_0 ?_
  by_cases q1 : i0 = 0
  · have hF := pI q1 hF
    refine st_tableIn (t := 28) h dX6_wordOfRule_1 (by rw [q1]; decide) (by rw [q1]; decide) (by rw [q1]; rfl) (by decide) ?_
    refine st_ldcS (tx := "index") (i := 8) h (by decide +kernel) dX6_wordOfRule_28 ?_
    cases hF
    exact st_tret h hr dX6_wordOfRule_30
  have hF := qI q1 hF
  by_cases q2 : i0 = 1
  · have hF := pI q2 hF
    refine st_tableIn (t := 31) h dX6_wordOfRule_1 (by rw [q2]; decide) (by rw [q2]; decide) (by rw [q2]; rfl) (by decide) ?_
    refine st_ldcS (tx := "x") (i := 9) h (by decide +kernel) dX6_wordOfRule_31 ?_
    cases hF
    exact st_tret h hr dX6_wordOfRule_33
  have hF := qI q2 hF
  by_cases q3 : i0 = 2
  · have hF := pI q3 hF
    refine st_tableIn (t := 34) h dX6_wordOfRule_1 (by rw [q3]; decide) (by rw [q3]; decide) (by rw [q3]; rfl) (by decide) ?_
    refine st_ldcS (tx := "carry") (i := 10) h (by decide +kernel) dX6_wordOfRule_34 ?_
    cases hF
    exact st_tret h hr dX6_wordOfRule_36
  have hF := qI q3 hF
  refine st_tableOut (t := 37) h dX6_wordOfRule_1 (tsw_0_2 q1 q2 q3) (by decide) ?_
  refine st_ldcS (tx := "due") (i := 11) h (by decide +kernel) dX6_wordOfRule_37 ?_
  cases hF
  exact st_tret h hr dX6_wordOfRule_39
set_option maxRecDepth 100000 in
set_option maxHeartbeats 4000000 in
theorem w_X9_mostOfRule {l : Launch} {G : Gv} {σ : Sto} {i0 : Int32} {z : Int32} (hF : F_X9_mostOfRule σ i0 = some z) : Con l yX9_mostOfRule cX9_mostOfRule 1 (some .int) 1 G shC νC [.int i0] (ovC σ) (some (.int z)) (ovC σ) := by
  rw [F_X9_mostOfRule] at hF
  refine Con_enter (own := RX9) 0 (lv := [some (.int i0)]) mi_X9_mostOfRule.2.2.2 rfl (Nat.le_of_ble_eq_true rfl) rfl (fun h hr hin => ?_)
  refine st_iload_0 h dX9_mostOfRule_0 ?_
  refine st_ic_2 h dX9_mostOfRule_1 ?_
  refine st_icmp_ne (t := 10) h dX9_mostOfRule_2 (by decide) (fun q1 => ?_) (fun q1 => ?_)
  · have hF := qI q1 hF
    refine st_iload_0 h dX9_mostOfRule_10 ?_
    refine st_ic_3 h dX9_mostOfRule_11 ?_
    refine st_icmp_ne (t := 20) h dX9_mostOfRule_12 (by decide) (fun q2 => ?_) (fun q2 => ?_)
    · have hF := qI q2 hF
      refine st_bipush (v := 50) h dX9_mostOfRule_20 (by decide) ?_
      cases hF
      exact st_iret h hr dX9_mostOfRule_22
    · have hF := pI q2 hF
      refine st_bipush (v := 99) h dX9_mostOfRule_15 (by decide) ?_
      refine st_goto (t := 22) h dX9_mostOfRule_17 (by decide) ?_
      cases hF
      exact st_iret h hr dX9_mostOfRule_22
  · have hF := pI q1 hF
    refine st_bipush (v := 100) h dX9_mostOfRule_5 (by decide) ?_
    refine st_goto (t := 22) h dX9_mostOfRule_7 (by decide) ?_
    cases hF
    exact st_iret h hr dX9_mostOfRule_22
set_option maxRecDepth 100000 in
set_option maxHeartbeats 4000000 in
theorem w_X6_readWhole_30 {p : Program} {l : Launch} {e : Env} {s : State} {m : MethodId} {args : Array Value} {below : List Frame} {meth : Method} {c : Code} {G : Gv} (h : Cx p s m args meth c G cX6_readWhole 2 RX6) (hr : meth.sig.returnType = (some .boolean)) : ∀ (σ : Sto) (z : (Int32 × Sto)), F_X6_readWhole_30 σ  = some z → AW p l e (rmD 2 0 0) s m args below meth c (MQ below (QcR G shC νC (some (.int z.1)) (ovC z.2)) args s 0 0 (gA G)) 0 0 G 2 30 [none, none] [] shC νC (ovC σ) := by
  intro σ z hF
  rw [F_X6_readWhole_30] at hF
  refine st_ic_1 h dX6_readWhole_30 ?_
  refine st_goto (t := 35) h dX6_readWhole_31 (by decide) ?_
  cases hF
  exact st_zret h hr (Or.inr rfl) dX6_readWhole_35
set_option maxRecDepth 100000 in
set_option maxHeartbeats 4000000 in
theorem w_X6_readWhole {l : Launch} {G : Gv} {σ : Sto} {i1 : Int32} {z : (Int32 × Sto)} (hF : F_X6_readWhole σ i1 = some z) : Con l yX6_readWhole cX6_readWhole 2 (some .boolean) 2 G shC νC [.ref 2, .int i1] (ovC σ) (some (.int z.1)) (ovC z.2) := by
  rw [F_X6_readWhole] at hF
  refine Con_enter (own := RX6) 0 (lv := [some (.ref 2), some (.int i1)]) mi_X6_readWhole.2.2.2 rfl (Nat.le_of_ble_eq_true rfl) rfl (fun h hr hin => ?_)
  refine st_aload_0 h dX6_readWhole_0 ?_
  refine gX6_3 h fl_X6_47 dX6_readWhole_1 (congrArg Prod.fst kC_2) ?_
  refine st_ic_2 h dX6_readWhole_4 ?_
  refine st_icmp_eq (t := 14) h dX6_readWhole_5 (by decide) (fun q1 => ?_) (fun q1 => ?_)
  · have hF := pI q1 hF
    refine st_aload_0 h dX6_readWhole_14 ?_
    refine gX6_5 h fl_X6_76 dX6_readWhole_15 (congrArg Prod.fst kC_2) ?_
    refine st_iload_1 h dX6_readWhole_18 ?_
    refine st_icmp_le (t := 30) h dX6_readWhole_19 (by decide) (fun q2 => ?_) (fun q2 => ?_)
    · have hF := pI q2 hF
      exact st_sub (ls_n (ls_n ls_e)) (w_X6_readWhole_30 h hr σ  z hF)
    · have hF := qI q2 hF
      refine st_aload_0 h dX6_readWhole_22 ?_
      refine st_ic_2 h dX6_readWhole_23 ?_
      obtain ⟨x1, hx1, hF⟩ := bI hF
      refine st_cVi (vs := [.int 2]) (st := []) h (w_X6_fail hx1) mi_X6_fail mv_X6_fail ml_X6_50 dX6_readWhole_24 kC_2 rfl ⟨Nat.le_of_ble_eq_true rfl, Nat.le_of_ble_eq_true rfl⟩ (Nat.le_of_ble_eq_true rfl) rfl ?_
      refine st_if_eq (t := 34) h dX6_readWhole_27 (by decide) (fun q3 => ?_) (fun q3 => ?_)
      · have hF := pI q3 hF
        refine st_ic_0 h dX6_readWhole_34 ?_
        cases hF
        exact st_zret h hr (Or.inl rfl) dX6_readWhole_35
      · have hF := qI q3 hF
        exact st_sub (ls_n (ls_n ls_e)) (w_X6_readWhole_30 h hr x1.2  z hF)
  · have hF := qI q1 hF
    refine st_aload_0 h dX6_readWhole_8 ?_
    refine st_ic_1 h dX6_readWhole_9 ?_
    obtain ⟨x2, hx2, hF⟩ := bI hF
    refine st_cVi (vs := [.int 1]) (st := []) h (w_X6_fail hx2) mi_X6_fail mv_X6_fail ml_X6_50 dX6_readWhole_10 kC_2 rfl ⟨Nat.le_of_ble_eq_true rfl, Nat.le_of_ble_eq_true rfl⟩ (Nat.le_of_ble_eq_true rfl) rfl ?_
    obtain ⟨g1, hF⟩ := gI hF
    cases hF
    exact st_zret h hr g1 dX6_readWhole_13
set_option maxRecDepth 100000 in
set_option maxHeartbeats 4000000 in
theorem w_X6_readRule {l : Launch} {G : Gv} {σ : Sto} {i1 : Int32} {z : (Int32 × Sto)} (hF : F_X6_readRule σ i1 = some z) : Con l yX6_readRule cX6_readRule 2 (some .boolean) 4 G shC νC [.ref 2, .int i1] (ovC σ) (some (.int z.1)) (ovC z.2) := by
  rw [F_X6_readRule] at hF
  refine Con_enter (own := RX6) 0 (lv := [some (.ref 2), some (.int i1)]) mi_X6_readRule.2.2.2 rfl (Nat.le_of_ble_eq_true rfl) rfl (fun h hr hin => ?_)
  refine st_aload_0 h dX6_readRule_0 ?_
  refine gX6_7 h fl_X6_22 dX6_readRule_1 (congrArg Prod.fst kC_2) ?_
  refine st_iload_1 h dX6_readRule_4 ?_
  refine st_ishr h dX6_readRule_5 ?_
  refine st_ic_1 h dX6_readRule_6 ?_
  refine st_iand h dX6_readRule_7 ?_
  refine st_if_eq (t := 17) h dX6_readRule_8 (by decide) (fun q1 => ?_) (fun q1 => ?_)
  · have hF := pI q1 hF
    refine st_aload_0 h dX6_readRule_17 ?_
    refine st_dup h rfl dX6_readRule_18 ?_
    refine gX6_7 h fl_X6_22 dX6_readRule_19 (congrArg Prod.fst kC_2) ?_
    refine st_ic_1 h dX6_readRule_22 ?_
    refine st_iload_1 h dX6_readRule_23 ?_
    refine st_ishl h dX6_readRule_24 ?_
    refine st_ior h dX6_readRule_25 ?_
    obtain ⟨s1, hs1, hF⟩ := swI hF
    refine pX6_7 h fl_X6_22 dX6_readRule_26 (congrArg Prod.fst kC_2) hs1 ?_
    refine st_aload_0 h dX6_readRule_29 ?_
    obtain ⟨x1, hx1, hF⟩ := bI hF
    refine st_cVv (vs := []) (st := []) h (w_X6_advance hx1) mi_X6_advance mv_X6_advance ml_X6_40 dX6_readRule_30 kC_2 rfl ⟨Nat.le_of_ble_eq_true rfl, Nat.le_of_ble_eq_true rfl⟩ (Nat.le_of_ble_eq_true rfl) rfl ?_
    refine st_aload_0 h dX6_readRule_33 ?_
    refine st_iload_1 h dX6_readRule_34 ?_
    obtain ⟨x2, hx2, hF⟩ := bI hF
    refine st_cSi (vs := [.int i1]) (st := [.ref 2]) h (w_X9_mostOfRule hx2) mi_X9_mostOfRule ms_X9_mostOfRule ml_X6_156 dX6_readRule_35 rfl ⟨Nat.le_of_ble_eq_true rfl, Nat.le_of_ble_eq_true rfl⟩ (Nat.le_of_ble_eq_true rfl) rfl ?_
    obtain ⟨x3, hx3, hF⟩ := bI hF
    refine st_cVi (vs := [.int x2]) (st := []) h (w_X6_readWhole hx3) mi_X6_readWhole mv_X6_readWhole ml_X6_147 dX6_readRule_38 kC_2 rfl ⟨Nat.le_of_ble_eq_true rfl, Nat.le_of_ble_eq_true rfl⟩ (Nat.le_of_ble_eq_true rfl) rfl ?_
    refine st_if_ne (t := 46) h dX6_readRule_41 (by decide) (fun q2 => ?_) (fun q2 => ?_)
    · have hF := qI q2 hF
      refine st_aload_0 h dX6_readRule_46 ?_
      obtain ⟨x4, hx4, hF⟩ := bI hF
      refine gX6_10 h fl_X6_31 dX6_readRule_47 hx4 ?_
      obtain ⟨g1, hF⟩ := gI hF
      refine gX9_5 h fl_X6_159 dX6_readRule_50 g1 ?_
      refine st_iload_1 h dX6_readRule_53 ?_
      refine st_aload_0 h dX6_readRule_54 ?_
      refine gX6_5 h fl_X6_76 dX6_readRule_55 (congrArg Prod.fst kC_2) ?_
      obtain ⟨g2, hF⟩ := gI hF
      obtain ⟨s2, hs2, hF⟩ := swI hF
      refine isC h dX6_readRule_58 (sk_9_5 g1) g2 hs2 ?_
      refine st_aload_0 h dX6_readRule_59 ?_
      obtain ⟨x5, hx5, hF⟩ := bI hF
      refine st_cVv (vs := []) (st := []) h (w_X6_advance hx5) mi_X6_advance mv_X6_advance ml_X6_40 dX6_readRule_60 kC_2 rfl ⟨Nat.le_of_ble_eq_true rfl, Nat.le_of_ble_eq_true rfl⟩ (Nat.le_of_ble_eq_true rfl) rfl ?_
      refine st_ic_1 h dX6_readRule_63 ?_
      cases hF
      exact st_zret h hr (Or.inr rfl) dX6_readRule_64
    · have hF := pI q2 hF
      refine st_ic_0 h dX6_readRule_44 ?_
      cases hF
      exact st_zret h hr (Or.inl rfl) dX6_readRule_45
  · have hF := qI q1 hF
    refine st_aload_0 h dX6_readRule_11 ?_
    refine st_ic_3 h dX6_readRule_12 ?_
    obtain ⟨x6, hx6, hF⟩ := bI hF
    refine st_cVi (vs := [.int 3]) (st := []) h (w_X6_fail hx6) mi_X6_fail mv_X6_fail ml_X6_50 dX6_readRule_13 kC_2 rfl ⟨Nat.le_of_ble_eq_true rfl, Nat.le_of_ble_eq_true rfl⟩ (Nat.le_of_ble_eq_true rfl) rfl ?_
    obtain ⟨g3, hF⟩ := gI hF
    cases hF
    exact st_zret h hr g3 dX6_readRule_16
set_option maxRecDepth 100000 in
set_option maxHeartbeats 4000000 in
theorem w_X6_wordOfValue {l : Launch} {G : Gv} {σ : Sto} {i0 : Int32} {z : Nat} (hF : F_X6_wordOfValue σ i0 = some z) : Con l yX6_wordOfValue cX6_wordOfValue 1 (some (.object "java/lang/String")) 1 G shC νC [.int i0] (ovC σ) (some (.retAddr z)) (ovC σ) := by
  rw [F_X6_wordOfValue] at hF
  refine Con_enter (own := RX6) 0 (lv := [some (.int i0)]) mi_X6_wordOfValue.2.2.2 rfl (Nat.le_of_ble_eq_true rfl) rfl (fun h hr hin => ?_)
  refine st_iload_0 h dX6_wordOfValue_0 ?_
  by_cases q1 : i0 = 0
  · have hF := pI q1 hF
    refine st_tableIn (t := 36) h dX6_wordOfValue_1 (by rw [q1]; decide) (by rw [q1]; decide) (by rw [q1]; rfl) (by decide) ?_
    refine st_ldcS (tx := "price") (i := 1) h (by decide +kernel) dX6_wordOfValue_36 ?_
    cases hF
    exact st_tret h hr dX6_wordOfValue_38
  have hF := qI q1 hF
  by_cases q2 : i0 = 1
  · have hF := pI q2 hF
    refine st_tableIn (t := 39) h dX6_wordOfValue_1 (by rw [q2]; decide) (by rw [q2]; decide) (by rw [q2]; rfl) (by decide) ?_
    refine st_ldcS (tx := "size") (i := 2) h (by decide +kernel) dX6_wordOfValue_39 ?_
    cases hF
    exact st_tret h hr dX6_wordOfValue_41
  have hF := qI q2 hF
  by_cases q3 : i0 = 2
  · have hF := pI q3 hF
    refine st_tableIn (t := 42) h dX6_wordOfValue_1 (by rw [q3]; decide) (by rw [q3]; decide) (by rw [q3]; rfl) (by decide) ?_
    refine st_ldcS (tx := "slope") (i := 3) h (by decide +kernel) dX6_wordOfValue_42 ?_
    cases hF
    exact st_tret h hr dX6_wordOfValue_44
  have hF := qI q3 hF
  by_cases q4 : i0 = 3
  · have hF := pI q4 hF
    refine st_tableIn (t := 45) h dX6_wordOfValue_1 (by rw [q4]; decide) (by rw [q4]; decide) (by rw [q4]; rfl) (by decide) ?_
    refine st_ldcS (tx := "cost") (i := 4) h (by decide +kernel) dX6_wordOfValue_45 ?_
    cases hF
    exact st_tret h hr dX6_wordOfValue_47
  have hF := qI q4 hF
  by_cases q5 : i0 = 4
  · have hF := pI q5 hF
    refine st_tableIn (t := 48) h dX6_wordOfValue_1 (by rw [q5]; decide) (by rw [q5]; decide) (by rw [q5]; rfl) (by decide) ?_
    refine st_ldcS (tx := "quality") (i := 5) h (by decide +kernel) dX6_wordOfValue_48 ?_
    cases hF
    exact st_tret h hr dX6_wordOfValue_50
  have hF := qI q5 hF
  refine st_tableOut (t := 51) h dX6_wordOfValue_1 (tsw_0_4 q1 q2 q3 q4 q5) (by decide) ?_
  refine st_ldcS (tx := "target") (i := 6) h (by decide +kernel) dX6_wordOfValue_51 ?_
  cases hF
  exact st_tret h hr dX6_wordOfValue_53
set_option maxRecDepth 100000 in
set_option maxHeartbeats 4000000 in
theorem w_X6_isReserved_81 {p : Program} {l : Launch} {e : Env} {s : State} {m : MethodId} {args : Array Value} {below : List Frame} {meth : Method} {c : Code} {G : Gv} (h : Cx p s m args meth c G cX6_isReserved 3 RX6) (hr : meth.sig.returnType = (some .boolean)) {k60 : Sto → Int32 → Int32 → Option Int32} (H60 : ∀ (σ : Sto) (i1 : Int32) (i2 : Int32) (z : Int32), k60 σ i1 i2 = some z → AW p l e (rmD 7 0 0) s m args below meth c (MQ below (QcR G shC νC (some (.int z)) (ovC σ)) args s 0 0 (gA G)) 0 0 G 3 60 [some (.ref 2), some (.int i1), some (.int i2)] [] shC νC (ovC σ)) : ∀ (σ : Sto) (i2 : Int32) (z : Int32), F_X6_isReserved_81 k60 σ i2 = some z → AW p l e (rmD 7 0 0) s m args below meth c (MQ below (QcR G shC νC (some (.int z)) (ovC σ)) args s 0 0 (gA G)) 0 0 G 3 81 [some (.ref 2), none, some (.int i2)] [] shC νC (ovC σ) := by
  intro σ i2 z hF
  rw [F_X6_isReserved_81] at hF
  refine st_ic_1 h dX6_isReserved_81 ?_
  refine st_goto (t := 86) h dX6_isReserved_82 (by decide) ?_
  refine st_istore_1 h dX6_isReserved_86 ?_
  refine st_iinc_2 (y := i2 + 1) h dX6_isReserved_87 (ii_1 _) ?_
  refine st_goto (t := 60) h dX6_isReserved_90 (by decide) ?_
  exact st_sub (ls_s (ls_s (ls_s ls_e))) (H60 σ 1 (i2 + 1) z hF)
set_option maxRecDepth 100000 in
set_option maxHeartbeats 4000000 in
theorem w_X6_isReserved_60 {p : Program} {l : Launch} {e : Env} {s : State} {m : MethodId} {args : Array Value} {below : List Frame} {meth : Method} {c : Code} {G : Gv} (h : Cx p s m args meth c G cX6_isReserved 3 RX6) (hr : meth.sig.returnType = (some .boolean)) : ∀ (n : Nat) (σ : Sto) (i1 : Int32) (i2 : Int32) (z : Int32), F_X6_isReserved_60 n σ i1 i2 = some z → AW p l e (rmD 7 0 0) s m args below meth c (MQ below (QcR G shC νC (some (.int z)) (ovC σ)) args s 0 0 (gA G)) 0 0 G 3 60 [some (.ref 2), some (.int i1), some (.int i2)] [] shC νC (ovC σ) := by
  intro n
  induction n with
  | zero => intro σ i1 i2 z hF; cases hF
  | succ n ih =>
    intro σ i1 i2 z hF
    rw [F_X6_isReserved_60] at hF
    refine st_iload_2 h dX6_isReserved_60 ?_
    refine st_bipush (v := 6) h dX6_isReserved_61 (by decide) ?_
    refine st_icmp_ge (t := 93) h dX6_isReserved_63 (by decide) (fun q1 => ?_) (fun q1 => ?_)
    · have hF := pI q1 hF
      refine st_iload_1 h dX6_isReserved_93 ?_
      obtain ⟨g1, hF⟩ := gI hF
      cases hF
      exact st_zret h hr g1 dX6_isReserved_94
    · have hF := qI q1 hF
      refine st_iload_1 h dX6_isReserved_66 ?_
      refine st_if_ne (t := 81) h dX6_isReserved_67 (by decide) (fun q2 => ?_) (fun q2 => ?_)
      · have hF := qI q2 hF
        exact st_sub (ls_s (ls_n (ls_s ls_e))) (w_X6_isReserved_81 h hr ih σ i2 z hF)
      · have hF := pI q2 hF
        refine st_aload_0 h dX6_isReserved_70 ?_
        refine st_iload_2 h dX6_isReserved_71 ?_
        obtain ⟨x1, hx1, hF⟩ := bI hF
        refine st_cSt (vs := [.int i2]) (st := [.ref 2]) h (w_X6_wordOfValue hx1) mi_X6_wordOfValue ms_X6_wordOfValue ml_X6_121 dX6_isReserved_72 rfl ⟨Nat.le_of_ble_eq_true rfl, Nat.le_of_ble_eq_true rfl⟩ (Nat.le_of_ble_eq_true rfl) rfl ?_
        obtain ⟨x2, hx2, hF⟩ := bI hF
        refine st_cVi (vs := [.retAddr x1]) (st := []) h (w_X6_isWord hx2) mi_X6_isWord mv_X6_isWord ml_X6_111 dX6_isReserved_75 kC_2 rfl ⟨Nat.le_of_ble_eq_true rfl, Nat.le_of_ble_eq_true rfl⟩ (Nat.le_of_ble_eq_true rfl) rfl ?_
        refine st_if_eq (t := 85) h dX6_isReserved_78 (by decide) (fun q3 => ?_) (fun q3 => ?_)
        · have hF := pI q3 hF
          refine st_ic_0 h dX6_isReserved_85 ?_
          refine st_istore_1 h dX6_isReserved_86 ?_
          refine st_iinc_2 (y := i2 + 1) h dX6_isReserved_87 (ii_1 _) ?_
          refine st_goto (t := 60) h dX6_isReserved_90 (by decide) ?_
          exact st_sub (ls_s (ls_s (ls_s ls_e))) (ih σ 0 (i2 + 1) z hF)
        · have hF := qI q3 hF
          exact st_sub (ls_s (ls_n (ls_s ls_e))) (w_X6_isReserved_81 h hr ih σ i2 z hF)
set_option maxRecDepth 100000 in
set_option maxHeartbeats 4000000 in
theorem w_X6_isReserved_46 {p : Program} {l : Launch} {e : Env} {s : State} {m : MethodId} {args : Array Value} {below : List Frame} {meth : Method} {c : Code} {G : Gv} (h : Cx p s m args meth c G cX6_isReserved 3 RX6) (hr : meth.sig.returnType = (some .boolean)) {k26 : Sto → Int32 → Int32 → Option Int32} (H26 : ∀ (σ : Sto) (i1 : Int32) (i2 : Int32) (z : Int32), k26 σ i1 i2 = some z → AW p l e (rmD 7 0 0) s m args below meth c (MQ below (QcR G shC νC (some (.int z)) (ovC σ)) args s 0 0 (gA G)) 0 0 G 3 26 [some (.ref 2), some (.int i1), some (.int i2)] [] shC νC (ovC σ)) : ∀ (σ : Sto) (i2 : Int32) (z : Int32), F_X6_isReserved_46 k26 σ i2 = some z → AW p l e (rmD 7 0 0) s m args below meth c (MQ below (QcR G shC νC (some (.int z)) (ovC σ)) args s 0 0 (gA G)) 0 0 G 3 46 [some (.ref 2), none, some (.int i2)] [] shC νC (ovC σ) := by
  intro σ i2 z hF
  rw [F_X6_isReserved_46] at hF
  refine st_ic_1 h dX6_isReserved_46 ?_
  refine st_goto (t := 51) h dX6_isReserved_47 (by decide) ?_
  refine st_istore_1 h dX6_isReserved_51 ?_
  refine st_iinc_2 (y := i2 + 1) h dX6_isReserved_52 (ii_1 _) ?_
  refine st_goto (t := 26) h dX6_isReserved_55 (by decide) ?_
  exact st_sub (ls_s (ls_s (ls_s ls_e))) (H26 σ 1 (i2 + 1) z hF)
set_option maxRecDepth 100000 in
set_option maxHeartbeats 4000000 in
theorem w_X6_isReserved_26 {p : Program} {l : Launch} {e : Env} {s : State} {m : MethodId} {args : Array Value} {below : List Frame} {meth : Method} {c : Code} {G : Gv} (h : Cx p s m args meth c G cX6_isReserved 3 RX6) (hr : meth.sig.returnType = (some .boolean)) : ∀ (n : Nat) (σ : Sto) (i1 : Int32) (i2 : Int32) (z : Int32), F_X6_isReserved_26 n σ i1 i2 = some z → AW p l e (rmD 7 0 0) s m args below meth c (MQ below (QcR G shC νC (some (.int z)) (ovC σ)) args s 0 0 (gA G)) 0 0 G 3 26 [some (.ref 2), some (.int i1), some (.int i2)] [] shC νC (ovC σ) := by
  intro n
  induction n with
  | zero => intro σ i1 i2 z hF; cases hF
  | succ n ih =>
    intro σ i1 i2 z hF
    rw [F_X6_isReserved_26] at hF
    refine st_iload_2 h dX6_isReserved_26 ?_
    refine st_ic_4 h dX6_isReserved_27 ?_
    refine st_icmp_ge (t := 58) h dX6_isReserved_28 (by decide) (fun q1 => ?_) (fun q1 => ?_)
    · have hF := pI q1 hF
      refine st_ic_0 h dX6_isReserved_58 ?_
      refine st_istore_2 h dX6_isReserved_59 ?_
      exact st_sub (ls_s (ls_s (ls_s ls_e))) (w_X6_isReserved_60 h hr FU σ i1 0 z hF)
    · have hF := qI q1 hF
      refine st_iload_1 h dX6_isReserved_31 ?_
      refine st_if_ne (t := 46) h dX6_isReserved_32 (by decide) (fun q2 => ?_) (fun q2 => ?_)
      · have hF := qI q2 hF
        exact st_sub (ls_s (ls_n (ls_s ls_e))) (w_X6_isReserved_46 h hr ih σ i2 z hF)
      · have hF := pI q2 hF
        refine st_aload_0 h dX6_isReserved_35 ?_
        refine st_iload_2 h dX6_isReserved_36 ?_
        obtain ⟨x1, hx1, hF⟩ := bI hF
        refine st_cSt (vs := [.int i2]) (st := [.ref 2]) h (w_X6_wordOfRule hx1) mi_X6_wordOfRule ms_X6_wordOfRule ml_X6_117 dX6_isReserved_37 rfl ⟨Nat.le_of_ble_eq_true rfl, Nat.le_of_ble_eq_true rfl⟩ (Nat.le_of_ble_eq_true rfl) rfl ?_
        obtain ⟨x2, hx2, hF⟩ := bI hF
        refine st_cVi (vs := [.retAddr x1]) (st := []) h (w_X6_isWord hx2) mi_X6_isWord mv_X6_isWord ml_X6_111 dX6_isReserved_40 kC_2 rfl ⟨Nat.le_of_ble_eq_true rfl, Nat.le_of_ble_eq_true rfl⟩ (Nat.le_of_ble_eq_true rfl) rfl ?_
        refine st_if_eq (t := 50) h dX6_isReserved_43 (by decide) (fun q3 => ?_) (fun q3 => ?_)
        · have hF := pI q3 hF
          refine st_ic_0 h dX6_isReserved_50 ?_
          refine st_istore_1 h dX6_isReserved_51 ?_
          refine st_iinc_2 (y := i2 + 1) h dX6_isReserved_52 (ii_1 _) ?_
          refine st_goto (t := 26) h dX6_isReserved_55 (by decide) ?_
          exact st_sub (ls_s (ls_s (ls_s ls_e))) (ih σ 0 (i2 + 1) z hF)
        · have hF := qI q3 hF
          exact st_sub (ls_s (ls_n (ls_s ls_e))) (w_X6_isReserved_46 h hr ih σ i2 z hF)
set_option maxRecDepth 100000 in
set_option maxHeartbeats 4000000 in
theorem w_X6_isReserved_18 {p : Program} {l : Launch} {e : Env} {s : State} {m : MethodId} {args : Array Value} {below : List Frame} {meth : Method} {c : Code} {G : Gv} (h : Cx p s m args meth c G cX6_isReserved 3 RX6) (hr : meth.sig.returnType = (some .boolean)) : ∀ (σ : Sto) (z : Int32), F_X6_isReserved_18 σ  = some z → AW p l e (rmD 7 0 0) s m args below meth c (MQ below (QcR G shC νC (some (.int z)) (ovC σ)) args s 0 0 (gA G)) 0 0 G 3 18 [some (.ref 2), none, none] [] shC νC (ovC σ) := by
  intro σ z hF
  rw [F_X6_isReserved_18] at hF
  refine st_ic_1 h dX6_isReserved_18 ?_
  refine st_goto (t := 23) h dX6_isReserved_19 (by decide) ?_
  refine st_istore_1 h dX6_isReserved_23 ?_
  refine st_ic_0 h dX6_isReserved_24 ?_
  refine st_istore_2 h dX6_isReserved_25 ?_
  exact st_sub (ls_s (ls_s (ls_s ls_e))) (w_X6_isReserved_26 h hr FU σ 1 0 z hF)
set_option maxRecDepth 100000 in
set_option maxHeartbeats 4000000 in
theorem w_X6_isReserved {l : Launch} {G : Gv} {σ : Sto} {z : Int32} (hF : F_X6_isReserved σ  = some z) : Con l yX6_isReserved cX6_isReserved 3 (some .boolean) 7 G shC νC [.ref 2] (ovC σ) (some (.int z)) (ovC σ) := by
  rw [F_X6_isReserved] at hF
  refine Con_enter (own := RX6) 2 (lv := [some (.ref 2), none, none]) mi_X6_isReserved.2.2.2 rfl (Nat.le_of_ble_eq_true rfl) rfl (fun h hr hin => ?_)
  refine st_aload_0 h dX6_isReserved_0 ?_
  refine st_ldcS (tx := "service") (i := 0) h (by decide +kernel) dX6_isReserved_1 ?_
  obtain ⟨x1, hx1, hF⟩ := bI hF
  refine st_cVi (vs := [.retAddr 0]) (st := []) h (w_X6_isWord hx1) mi_X6_isWord mv_X6_isWord ml_X6_111 dX6_isReserved_3 kC_2 rfl ⟨Nat.le_of_ble_eq_true rfl, Nat.le_of_ble_eq_true rfl⟩ (Nat.le_of_ble_eq_true rfl) rfl ?_
  refine st_if_ne (t := 18) h dX6_isReserved_6 (by decide) (fun q1 => ?_) (fun q1 => ?_)
  · have hF := qI q1 hF
    exact st_sub (ls_s (ls_n (ls_n ls_e))) (w_X6_isReserved_18 h hr σ  z hF)
  · have hF := pI q1 hF
    refine st_aload_0 h dX6_isReserved_9 ?_
    refine st_ldcS (tx := "buyer") (i := 7) h (by decide +kernel) dX6_isReserved_10 ?_
    obtain ⟨x2, hx2, hF⟩ := bI hF
    refine st_cVi (vs := [.retAddr 7]) (st := []) h (w_X6_isWord hx2) mi_X6_isWord mv_X6_isWord ml_X6_111 dX6_isReserved_12 kC_2 rfl ⟨Nat.le_of_ble_eq_true rfl, Nat.le_of_ble_eq_true rfl⟩ (Nat.le_of_ble_eq_true rfl) rfl ?_
    refine st_if_eq (t := 22) h dX6_isReserved_15 (by decide) (fun q2 => ?_) (fun q2 => ?_)
    · have hF := pI q2 hF
      refine st_ic_0 h dX6_isReserved_22 ?_
      refine st_istore_1 h dX6_isReserved_23 ?_
      refine st_ic_0 h dX6_isReserved_24 ?_
      refine st_istore_2 h dX6_isReserved_25 ?_
      exact st_sub (ls_s (ls_s (ls_s ls_e))) (w_X6_isReserved_26 h hr FU σ 0 0 z hF)
    · have hF := qI q2 hF
      exact st_sub (ls_s (ls_n (ls_n ls_e))) (w_X6_isReserved_18 h hr σ  z hF)
set_option maxRecDepth 100000 in
set_option maxHeartbeats 4000000 in
theorem w_X9_hasName_31 {p : Program} {l : Launch} {e : Env} {s : State} {m : MethodId} {args : Array Value} {below : List Frame} {meth : Method} {c : Code} {G : Gv} (h : Cx p s m args meth c G cX9_hasName 4 RX9) (hr : meth.sig.returnType = (some .boolean)) : ∀ (n : Nat) (σ : Sto) (a0 : Nat) (l1 : Int64) (i3 : Int32) (z : Int32), F_X9_hasName_31 n σ a0 l1 i3 = some z → AW p l e (rmD 1 0 0) s m args below meth c (MQ below (QcR G shC νC (some (.int z)) (ovC σ)) args s 0 0 (gA G)) 0 0 G 4 31 [some (.ref a0), some (.long l1), none, some (.int i3)] [] shC νC (ovC σ) := by
  intro n
  induction n with
  | zero => intro σ a0 l1 i3 z hF; cases hF
  | succ n ih =>
    intro σ a0 l1 i3 z hF
    rw [F_X9_hasName_31] at hF
    refine st_iload_3 h dX9_hasName_31 ?_
    refine st_aload_0 h dX9_hasName_32 ?_
    obtain ⟨g1, hF⟩ := gI hF
    refine gX9_1 h fl_X9_38 dX9_hasName_33 g1 ?_
    refine st_icmp_ge (t := 60) h dX9_hasName_36 (by decide) (fun q1 => ?_) (fun q1 => ?_)
    · have hF := pI q1 hF
      refine st_ic_0 h dX9_hasName_60 ?_
      cases hF
      exact st_zret h hr (Or.inl rfl) dX9_hasName_61
    · have hF := qI q1 hF
      refine st_aload_0 h dX9_hasName_39 ?_
      refine gX9_2 h fl_X9_11 dX9_hasName_40 g1 ?_
      refine st_ic_4 h dX9_hasName_43 ?_
      refine st_iload_3 h dX9_hasName_44 ?_
      refine st_iadd h dX9_hasName_45 ?_
      obtain ⟨g2, hF⟩ := gI hF
      refine laC h dX9_hasName_46 (sk_9_2 g1) g2 ?_
      refine st_lload_1 h dX9_hasName_47 ?_
      refine st_lcmp h dX9_hasName_48 ?_
      refine st_if_ne (t := 54) h dX9_hasName_49 (by decide) (fun q2 => ?_) (fun q2 => ?_)
      · have hF := qI q2 hF
        refine st_iinc_3 (y := i3 + 1) h dX9_hasName_54 (ii_1 _) ?_
        refine st_goto (t := 31) h dX9_hasName_57 (by decide) ?_
        exact st_sub (ls_s (ls_s (ls_n (ls_s ls_e)))) (ih σ a0 l1 (i3 + 1) z hF)
      · have hF := pI q2 hF
        refine st_ic_1 h dX9_hasName_52 ?_
        cases hF
        exact st_zret h hr (Or.inr rfl) dX9_hasName_53
set_option maxRecDepth 100000 in
set_option maxHeartbeats 4000000 in
theorem w_X9_hasName_2 {p : Program} {l : Launch} {e : Env} {s : State} {m : MethodId} {args : Array Value} {below : List Frame} {meth : Method} {c : Code} {G : Gv} (h : Cx p s m args meth c G cX9_hasName 4 RX9) (hr : meth.sig.returnType = (some .boolean)) : ∀ (n : Nat) (σ : Sto) (a0 : Nat) (l1 : Int64) (i3 : Int32) (z : Int32), F_X9_hasName_2 n σ a0 l1 i3 = some z → AW p l e (rmD 1 0 0) s m args below meth c (MQ below (QcR G shC νC (some (.int z)) (ovC σ)) args s 0 0 (gA G)) 0 0 G 4 2 [some (.ref a0), some (.long l1), none, some (.int i3)] [] shC νC (ovC σ) := by
  intro n
  induction n with
  | zero => intro σ a0 l1 i3 z hF; cases hF
  | succ n ih =>
    intro σ a0 l1 i3 z hF
    rw [F_X9_hasName_2] at hF
    refine st_iload_3 h dX9_hasName_2 ?_
    refine st_aload_0 h dX9_hasName_3 ?_
    obtain ⟨g1, hF⟩ := gI hF
    refine gX9_0 h fl_X9_34 dX9_hasName_4 g1 ?_
    refine st_icmp_ge (t := 29) h dX9_hasName_7 (by decide) (fun q1 => ?_) (fun q1 => ?_)
    · have hF := pI q1 hF
      refine st_ic_0 h dX9_hasName_29 ?_
      refine st_istore_3 h dX9_hasName_30 ?_
      exact st_sub (ls_s (ls_s (ls_n (ls_s ls_e)))) (w_X9_hasName_31 h hr FU σ a0 l1 0 z hF)
    · have hF := qI q1 hF
      refine st_aload_0 h dX9_hasName_10 ?_
      refine gX9_2 h fl_X9_11 dX9_hasName_11 g1 ?_
      refine st_iload_3 h dX9_hasName_14 ?_
      obtain ⟨g2, hF⟩ := gI hF
      refine laC h dX9_hasName_15 (sk_9_2 g1) g2 ?_
      refine st_lload_1 h dX9_hasName_16 ?_
      refine st_lcmp h dX9_hasName_17 ?_
      refine st_if_ne (t := 23) h dX9_hasName_18 (by decide) (fun q2 => ?_) (fun q2 => ?_)
      · have hF := qI q2 hF
        refine st_iinc_3 (y := i3 + 1) h dX9_hasName_23 (ii_1 _) ?_
        refine st_goto (t := 2) h dX9_hasName_26 (by decide) ?_
        exact st_sub (ls_s (ls_s (ls_n (ls_s ls_e)))) (ih σ a0 l1 (i3 + 1) z hF)
      · have hF := pI q2 hF
        refine st_ic_1 h dX9_hasName_21 ?_
        cases hF
        exact st_zret h hr (Or.inr rfl) dX9_hasName_22
set_option maxRecDepth 100000 in
set_option maxHeartbeats 4000000 in
theorem w_X9_hasName {l : Launch} {G : Gv} {σ : Sto} {a0 : Nat} {l1 : Int64} {z : Int32} (hF : F_X9_hasName σ a0 l1 = some z) : Con l yX9_hasName cX9_hasName 4 (some .boolean) 1 G shC νC [.ref a0, .long l1] (ovC σ) (some (.int z)) (ovC σ) := by
  rw [F_X9_hasName] at hF
  refine Con_enter (own := RX9) 1 (lv := [some (.ref a0), some (.long l1), none, none]) mi_X9_hasName.2.2.2 rfl (Nat.le_of_ble_eq_true rfl) rfl (fun h hr hin => ?_)
  refine st_ic_0 h dX9_hasName_0 ?_
  refine st_istore_3 h dX9_hasName_1 ?_
  exact st_sub (ls_s (ls_s (ls_n (ls_s ls_e)))) (w_X9_hasName_2 h hr FU σ a0 l1 0 z hF)
set_option maxRecDepth 100000 in
set_option maxHeartbeats 4000000 in
theorem w_X6_readName_19 {p : Program} {l : Launch} {e : Env} {s : State} {m : MethodId} {args : Array Value} {below : List Frame} {meth : Method} {c : Code} {G : Gv} (h : Cx p s m args meth c G cX6_readName 2 RX6) (hr : meth.sig.returnType = (some .boolean)) : ∀ (σ : Sto) (z : (Int32 × Sto)), F_X6_readName_19 σ  = some z → AW p l e (rmD 8 0 0) s m args below meth c (MQ below (QcR G shC νC (some (.int z.1)) (ovC z.2)) args s 0 0 (gA G)) 0 0 G 2 19 [some (.ref 2), none] [] shC νC (ovC σ) := by
  intro σ z hF
  rw [F_X6_readName_19] at hF
  refine st_aload_0 h dX6_readName_19 ?_
  refine st_ic_1 h dX6_readName_20 ?_
  obtain ⟨x1, hx1, hF⟩ := bI hF
  refine st_cVi (vs := [.int 1]) (st := []) h (w_X6_fail hx1) mi_X6_fail mv_X6_fail ml_X6_50 dX6_readName_21 kC_2 rfl ⟨Nat.le_of_ble_eq_true rfl, Nat.le_of_ble_eq_true rfl⟩ (Nat.le_of_ble_eq_true rfl) rfl ?_
  obtain ⟨g1, hF⟩ := gI hF
  cases hF
  exact st_zret h hr g1 dX6_readName_24
set_option maxRecDepth 100000 in
set_option maxHeartbeats 4000000 in
theorem w_X6_readName {l : Launch} {G : Gv} {σ : Sto} {i1 : Int32} {z : (Int32 × Sto)} (hF : F_X6_readName σ i1 = some z) : Con l yX6_readName cX6_readName 2 (some .boolean) 8 G shC νC [.ref 2, .int i1] (ovC σ) (some (.int z.1)) (ovC z.2) := by
  rw [F_X6_readName] at hF
  refine Con_enter (own := RX6) 0 (lv := [some (.ref 2), some (.int i1)]) mi_X6_readName.2.2.2 rfl (Nat.le_of_ble_eq_true rfl) rfl (fun h hr hin => ?_)
  refine st_aload_0 h dX6_readName_0 ?_
  obtain ⟨x1, hx1, hF⟩ := bI hF
  refine st_cVv (vs := []) (st := []) h (w_X6_advance hx1) mi_X6_advance mv_X6_advance ml_X6_40 dX6_readName_1 kC_2 rfl ⟨Nat.le_of_ble_eq_true rfl, Nat.le_of_ble_eq_true rfl⟩ (Nat.le_of_ble_eq_true rfl) rfl ?_
  refine st_aload_0 h dX6_readName_4 ?_
  refine gX6_3 h fl_X6_47 dX6_readName_5 (congrArg Prod.fst kC_2) ?_
  refine st_ic_1 h dX6_readName_8 ?_
  refine st_icmp_ne (t := 19) h dX6_readName_9 (by decide) (fun q1 => ?_) (fun q1 => ?_)
  · have hF := qI q1 hF
    exact st_sub (ls_s (ls_n ls_e)) (w_X6_readName_19 h hr x1  z hF)
  · have hF := pI q1 hF
    refine st_aload_0 h dX6_readName_12 ?_
    obtain ⟨x2, hx2, hF⟩ := bI hF
    refine st_cVi (vs := []) (st := []) h (w_X6_isReserved hx2) mi_X6_isReserved mv_X6_isReserved ml_X6_162 dX6_readName_13 kC_2 rfl ⟨Nat.le_of_ble_eq_true rfl, Nat.le_of_ble_eq_true rfl⟩ (Nat.le_of_ble_eq_true rfl) rfl ?_
    refine st_if_eq (t := 25) h dX6_readName_16 (by decide) (fun q2 => ?_) (fun q2 => ?_)
    · have hF := pI q2 hF
      refine st_aload_0 h dX6_readName_25 ?_
      obtain ⟨x3, hx3, hF⟩ := bI hF
      refine gX6_10 h fl_X6_31 dX6_readName_26 hx3 ?_
      refine st_aload_0 h dX6_readName_29 ?_
      refine gX6_6 h fl_X6_72 dX6_readName_30 (congrArg Prod.fst kC_2) ?_
      obtain ⟨g1, hF⟩ := gI hF
      obtain ⟨x4, hx4, hF⟩ := bI hF
      refine st_cVi (vs := [.long (x1.2.1 2 6)]) (st := []) h (w_X9_hasName hx4) mi_X9_hasName mv_X9_hasName ml_X6_165 dX6_readName_33 (shC_e g1) rfl ⟨Nat.le_of_ble_eq_true rfl, Nat.le_of_ble_eq_true rfl⟩ (Nat.le_of_ble_eq_true rfl) rfl ?_
      refine st_if_eq (t := 45) h dX6_readName_36 (by decide) (fun q3 => ?_) (fun q3 => ?_)
      · have hF := pI q3 hF
        refine st_aload_0 h dX6_readName_45 ?_
        obtain ⟨x5, hx5, hF⟩ := bI hF
        refine gX6_10 h fl_X6_31 dX6_readName_46 hx5 ?_
        obtain ⟨g2, hF⟩ := gI hF
        refine gX9_2 h fl_X6_169 dX6_readName_49 g2 ?_
        refine st_iload_1 h dX6_readName_52 ?_
        refine st_aload_0 h dX6_readName_53 ?_
        refine gX6_6 h fl_X6_72 dX6_readName_54 (congrArg Prod.fst kC_2) ?_
        obtain ⟨g3, hF⟩ := gI hF
        obtain ⟨s1, hs1, hF⟩ := swI hF
        refine lsC h dX6_readName_57 (sk_9_2 g2) g3 hs1 ?_
        refine st_aload_0 h dX6_readName_58 ?_
        obtain ⟨x6, hx6, hF⟩ := bI hF
        refine st_cVv (vs := []) (st := []) h (w_X6_advance hx6) mi_X6_advance mv_X6_advance ml_X6_40 dX6_readName_59 kC_2 rfl ⟨Nat.le_of_ble_eq_true rfl, Nat.le_of_ble_eq_true rfl⟩ (Nat.le_of_ble_eq_true rfl) rfl ?_
        refine st_ic_1 h dX6_readName_62 ?_
        cases hF
        exact st_zret h hr (Or.inr rfl) dX6_readName_63
      · have hF := qI q3 hF
        refine st_aload_0 h dX6_readName_39 ?_
        refine st_ic_3 h dX6_readName_40 ?_
        obtain ⟨x7, hx7, hF⟩ := bI hF
        refine st_cVi (vs := [.int 3]) (st := []) h (w_X6_fail hx7) mi_X6_fail mv_X6_fail ml_X6_50 dX6_readName_41 kC_2 rfl ⟨Nat.le_of_ble_eq_true rfl, Nat.le_of_ble_eq_true rfl⟩ (Nat.le_of_ble_eq_true rfl) rfl ?_
        obtain ⟨g4, hF⟩ := gI hF
        cases hF
        exact st_zret h hr g4 dX6_readName_44
    · have hF := qI q2 hF
      exact st_sub (ls_s (ls_n ls_e)) (w_X6_readName_19 h hr x1  z hF)
set_option maxRecDepth 100000 in
set_option maxHeartbeats 4000000 in
theorem w_X6_readBuyer_23 {p : Program} {l : Launch} {e : Env} {s : State} {m : MethodId} {args : Array Value} {below : List Frame} {meth : Method} {c : Code} {G : Gv} (h : Cx p s m args meth c G cX6_readBuyer 3 RX6) (hr : meth.sig.returnType = (some .boolean)) : ∀ (σ : Sto) (z : (Int32 × Sto)), F_X6_readBuyer_23 σ  = some z → AW p l e (rmD 9 0 0) s m args below meth c (MQ below (QcR G shC νC (some (.int z.1)) (ovC z.2)) args s 0 0 (gA G)) 0 0 G 3 23 [some (.ref 2), none, none] [] shC νC (ovC σ) := by
  intro σ z hF
  rw [F_X6_readBuyer_23] at hF
  refine st_aload_0 h dX6_readBuyer_23 ?_
  refine st_ic_4 h dX6_readBuyer_24 ?_
  obtain ⟨x1, hx1, hF⟩ := bI hF
  refine st_cVi (vs := [.int 4]) (st := []) h (w_X6_fail hx1) mi_X6_fail mv_X6_fail ml_X6_50 dX6_readBuyer_25 kC_2 rfl ⟨Nat.le_of_ble_eq_true rfl, Nat.le_of_ble_eq_true rfl⟩ (Nat.le_of_ble_eq_true rfl) rfl ?_
  obtain ⟨g1, hF⟩ := gI hF
  cases hF
  exact st_zret h hr g1 dX6_readBuyer_28
set_option maxRecDepth 100000 in
set_option maxHeartbeats 4000000 in
theorem w_X6_readBuyer_89 {p : Program} {l : Launch} {e : Env} {s : State} {m : MethodId} {args : Array Value} {below : List Frame} {meth : Method} {c : Code} {G : Gv} (h : Cx p s m args meth c G cX6_readBuyer 3 RX6) (hr : meth.sig.returnType = (some .boolean)) {k56 : Sto → Int32 → Int32 → Option (Int32 × Sto)} (H56 : ∀ (σ : Sto) (i1 : Int32) (i2 : Int32) (z : (Int32 × Sto)), k56 σ i1 i2 = some z → AW p l e (rmD 9 0 0) s m args below meth c (MQ below (QcR G shC νC (some (.int z.1)) (ovC z.2)) args s 0 0 (gA G)) 0 0 G 3 56 [some (.ref 2), some (.int i1), some (.int i2)] [] shC νC (ovC σ)) : ∀ (σ : Sto) (i1 : Int32) (i2 : Int32) (z : (Int32 × Sto)), F_X6_readBuyer_89 k56 σ i1 i2 = some z → AW p l e (rmD 9 0 0) s m args below meth c (MQ below (QcR G shC νC (some (.int z.1)) (ovC z.2)) args s 0 0 (gA G)) 0 0 G 3 89 [some (.ref 2), some (.int i1), some (.int i2)] [] shC νC (ovC σ) := by
  intro σ i1 i2 z hF
  rw [F_X6_readBuyer_89] at hF
  refine st_aload_0 h dX6_readBuyer_89 ?_
  refine st_bipush (v := 99) h dX6_readBuyer_90 (by decide) ?_
  obtain ⟨x1, hx1, hF⟩ := bI hF
  refine st_cVi (vs := [.int 99]) (st := []) h (w_X6_readWhole hx1) mi_X6_readWhole mv_X6_readWhole ml_X6_147 dX6_readBuyer_92 kC_2 rfl ⟨Nat.le_of_ble_eq_true rfl, Nat.le_of_ble_eq_true rfl⟩ (Nat.le_of_ble_eq_true rfl) rfl ?_
  refine st_if_ne (t := 100) h dX6_readBuyer_95 (by decide) (fun q1 => ?_) (fun q1 => ?_)
  · have hF := qI q1 hF
    refine st_aload_0 h dX6_readBuyer_100 ?_
    obtain ⟨x2, hx2, hF⟩ := bI hF
    refine gX6_10 h fl_X6_31 dX6_readBuyer_101 hx2 ?_
    obtain ⟨g1, hF⟩ := gI hF
    refine gX9_4 h fl_X6_153 dX6_readBuyer_104 g1 ?_
    refine st_iload_1 h dX6_readBuyer_107 ?_
    refine st_ic_4 h dX6_readBuyer_108 ?_
    refine st_imul h dX6_readBuyer_109 ?_
    refine st_iload_2 h dX6_readBuyer_110 ?_
    refine st_iadd h dX6_readBuyer_111 ?_
    refine st_aload_0 h dX6_readBuyer_112 ?_
    refine gX6_5 h fl_X6_76 dX6_readBuyer_113 (congrArg Prod.fst kC_2) ?_
    obtain ⟨g2, hF⟩ := gI hF
    obtain ⟨s1, hs1, hF⟩ := swI hF
    refine isC h dX6_readBuyer_116 (sk_9_4 g1) g2 hs1 ?_
    refine st_aload_0 h dX6_readBuyer_117 ?_
    obtain ⟨x3, hx3, hF⟩ := bI hF
    refine st_cVv (vs := []) (st := []) h (w_X6_advance hx3) mi_X6_advance mv_X6_advance ml_X6_40 dX6_readBuyer_118 kC_2 rfl ⟨Nat.le_of_ble_eq_true rfl, Nat.le_of_ble_eq_true rfl⟩ (Nat.le_of_ble_eq_true rfl) rfl ?_
    refine st_iinc_2 (y := i2 + 1) h dX6_readBuyer_121 (ii_1 _) ?_
    refine st_goto (t := 56) h dX6_readBuyer_124 (by decide) ?_
    exact st_sub (ls_s (ls_s (ls_s ls_e))) (H56 x3 i1 (i2 + 1) z hF)
  · have hF := pI q1 hF
    refine st_ic_0 h dX6_readBuyer_98 ?_
    cases hF
    exact st_zret h hr (Or.inl rfl) dX6_readBuyer_99
set_option maxRecDepth 100000 in
set_option maxHeartbeats 4000000 in
theorem w_X6_readBuyer_56 {p : Program} {l : Launch} {e : Env} {s : State} {m : MethodId} {args : Array Value} {below : List Frame} {meth : Method} {c : Code} {G : Gv} (h : Cx p s m args meth c G cX6_readBuyer 3 RX6) (hr : meth.sig.returnType = (some .boolean)) : ∀ (n : Nat) (σ : Sto) (i1 : Int32) (i2 : Int32) (z : (Int32 × Sto)), F_X6_readBuyer_56 n σ i1 i2 = some z → AW p l e (rmD 9 0 0) s m args below meth c (MQ below (QcR G shC νC (some (.int z.1)) (ovC z.2)) args s 0 0 (gA G)) 0 0 G 3 56 [some (.ref 2), some (.int i1), some (.int i2)] [] shC νC (ovC σ) := by
  intro n
  induction n with
  | zero => intro σ i1 i2 z hF; cases hF
  | succ n ih =>
    intro σ i1 i2 z hF
    rw [F_X6_readBuyer_56] at hF
    refine st_iload_2 h dX6_readBuyer_56 ?_
    refine st_aload_0 h dX6_readBuyer_57 ?_
    obtain ⟨x1, hx1, hF⟩ := bI hF
    refine gX6_10 h fl_X6_31 dX6_readBuyer_58 hx1 ?_
    obtain ⟨g1, hF⟩ := gI hF
    refine gX9_0 h fl_X6_54 dX6_readBuyer_61 g1 ?_
    refine st_icmp_ge (t := 127) h dX6_readBuyer_64 (by decide) (fun q1 => ?_) (fun q1 => ?_)
    · have hF := pI q1 hF
      refine st_ic_1 h dX6_readBuyer_127 ?_
      cases hF
      exact st_zret h hr (Or.inr rfl) dX6_readBuyer_128
    · have hF := qI q1 hF
      refine st_iload_2 h dX6_readBuyer_67 ?_
      refine st_if_le (t := 89) h dX6_readBuyer_68 (by decide) (fun q2 => ?_) (fun q2 => ?_)
      · have hF := pI q2 hF
        exact st_sub (ls_s (ls_s (ls_s ls_e))) (w_X6_readBuyer_89 h hr ih σ i1 i2 z hF)
      · have hF := qI q2 hF
        refine st_aload_0 h dX6_readBuyer_71 ?_
        refine gX6_3 h fl_X6_47 dX6_readBuyer_72 (congrArg Prod.fst kC_2) ?_
        refine st_ic_4 h dX6_readBuyer_75 ?_
        refine st_icmp_eq (t := 85) h dX6_readBuyer_76 (by decide) (fun q3 => ?_) (fun q3 => ?_)
        · have hF := pI q3 hF
          refine st_aload_0 h dX6_readBuyer_85 ?_
          obtain ⟨x2, hx2, hF⟩ := bI hF
          refine st_cVv (vs := []) (st := []) h (w_X6_advance hx2) mi_X6_advance mv_X6_advance ml_X6_40 dX6_readBuyer_86 kC_2 rfl ⟨Nat.le_of_ble_eq_true rfl, Nat.le_of_ble_eq_true rfl⟩ (Nat.le_of_ble_eq_true rfl) rfl ?_
          exact st_sub (ls_s (ls_s (ls_s ls_e))) (w_X6_readBuyer_89 h hr ih x2 i1 i2 z hF)
        · have hF := qI q3 hF
          refine st_aload_0 h dX6_readBuyer_79 ?_
          refine st_ic_1 h dX6_readBuyer_80 ?_
          obtain ⟨x3, hx3, hF⟩ := bI hF
          refine st_cVi (vs := [.int 1]) (st := []) h (w_X6_fail hx3) mi_X6_fail mv_X6_fail ml_X6_50 dX6_readBuyer_81 kC_2 rfl ⟨Nat.le_of_ble_eq_true rfl, Nat.le_of_ble_eq_true rfl⟩ (Nat.le_of_ble_eq_true rfl) rfl ?_
          obtain ⟨g2, hF⟩ := gI hF
          cases hF
          exact st_zret h hr g2 dX6_readBuyer_84
set_option maxRecDepth 100000 in
set_option maxHeartbeats 4000000 in
theorem w_X6_readBuyer {l : Launch} {G : Gv} {σ : Sto} {z : (Int32 × Sto)} (hF : F_X6_readBuyer σ  = some z) : Con l yX6_readBuyer cX6_readBuyer 3 (some .boolean) 9 G shC νC [.ref 2] (ovC σ) (some (.int z.1)) (ovC z.2) := by
  rw [F_X6_readBuyer] at hF
  refine Con_enter (own := RX6) 2 (lv := [some (.ref 2), none, none]) mi_X6_readBuyer.2.2.2 rfl (Nat.le_of_ble_eq_true rfl) rfl (fun h hr hin => ?_)
  refine st_aload_0 h dX6_readBuyer_0 ?_
  obtain ⟨x1, hx1, hF⟩ := bI hF
  refine gX6_10 h fl_X6_31 dX6_readBuyer_1 hx1 ?_
  obtain ⟨g1, hF⟩ := gI hF
  refine gX9_1 h fl_X6_133 dX6_readBuyer_4 g1 ?_
  refine st_istore_1 h dX6_readBuyer_7 ?_
  refine st_iload_1 h dX6_readBuyer_8 ?_
  refine st_ic_4 h dX6_readBuyer_9 ?_
  refine st_icmp_ge (t := 23) h dX6_readBuyer_10 (by decide) (fun q1 => ?_) (fun q1 => ?_)
  · have hF := pI q1 hF
    exact st_sub (ls_s (ls_n (ls_n ls_e))) (w_X6_readBuyer_23 h hr σ  z hF)
  · have hF := qI q1 hF
    refine st_aload_0 h dX6_readBuyer_13 ?_
    obtain ⟨x2, hx2, hF⟩ := bI hF
    refine gX6_10 h fl_X6_31 dX6_readBuyer_14 hx2 ?_
    obtain ⟨g2, hF⟩ := gI hF
    refine gX9_0 h fl_X6_54 dX6_readBuyer_17 g2 ?_
    refine st_if_ne (t := 29) h dX6_readBuyer_20 (by decide) (fun q2 => ?_) (fun q2 => ?_)
    · have hF := qI q2 hF
      refine st_aload_0 h dX6_readBuyer_29 ?_
      refine st_ic_4 h dX6_readBuyer_30 ?_
      refine st_iload_1 h dX6_readBuyer_31 ?_
      refine st_iadd h dX6_readBuyer_32 ?_
      obtain ⟨x3, hx3, hF⟩ := bI hF
      refine st_cVi (vs := [.int (4 + (σ.1 x1 1))]) (st := []) h (w_X6_readName hx3) mi_X6_readName mv_X6_readName ml_X6_136 dX6_readBuyer_33 kC_2 rfl ⟨Nat.le_of_ble_eq_true rfl, Nat.le_of_ble_eq_true rfl⟩ (Nat.le_of_ble_eq_true rfl) rfl ?_
      refine st_if_ne (t := 41) h dX6_readBuyer_36 (by decide) (fun q3 => ?_) (fun q3 => ?_)
      · have hF := qI q3 hF
        refine st_aload_0 h dX6_readBuyer_41 ?_
        obtain ⟨x4, hx4, hF⟩ := bI hF
        refine gX6_10 h fl_X6_31 dX6_readBuyer_42 hx4 ?_
        refine st_dup h rfl dX6_readBuyer_45 ?_
        obtain ⟨g3, hF⟩ := gI hF
        refine gX9_1 h fl_X6_133 dX6_readBuyer_46 g3 ?_
        refine st_ic_1 h dX6_readBuyer_49 ?_
        refine st_iadd h dX6_readBuyer_50 ?_
        obtain ⟨s1, hs1, hF⟩ := swI hF
        refine pX9_1 h fl_X6_133 dX6_readBuyer_51 g3 hs1 ?_
        refine st_ic_0 h dX6_readBuyer_54 ?_
        refine st_istore_2 h dX6_readBuyer_55 ?_
        exact st_sub (ls_s (ls_s (ls_s ls_e))) (w_X6_readBuyer_56 h hr FU s1 (σ.1 x1 1) 0 z hF)
      · have hF := pI q3 hF
        refine st_ic_0 h dX6_readBuyer_39 ?_
        cases hF
        exact st_zret h hr (Or.inl rfl) dX6_readBuyer_40
    · have hF := pI q2 hF
      exact st_sub (ls_s (ls_n (ls_n ls_e))) (w_X6_readBuyer_23 h hr σ  z hF)
set_option maxRecDepth 100000 in
set_option maxHeartbeats 4000000 in
theorem w_X9_mostOfValue {l : Launch} {G : Gv} {σ : Sto} {i0 : Int32} {z : Int32} (hF : F_X9_mostOfValue σ i0 = some z) : Con l yX9_mostOfValue cX9_mostOfValue 1 (some .int) 1 G shC νC [.int i0] (ovC σ) (some (.int z)) (ovC σ) := by
  rw [F_X9_mostOfValue] at hF
  refine Con_enter (own := RX9) 0 (lv := [some (.int i0)]) mi_X9_mostOfValue.2.2.2 rfl (Nat.le_of_ble_eq_true rfl) rfl (fun h hr hin => ?_)
  refine st_iload_0 h dX9_mostOfValue_0 ?_
  by_cases q1 : i0 = 1
  · have hF := pI q1 hF
    refine st_tableIn (t := 36) h dX9_mostOfValue_1 (by rw [q1]; decide) (by rw [q1]; decide) (by rw [q1]; rfl) (by decide) ?_
    refine st_sipush (v := 200) h dX9_mostOfValue_36 (by decide) ?_
    cases hF
    exact st_iret h hr dX9_mostOfValue_39
  have hF := qI q1 hF
  by_cases q2 : i0 = 2
  · have hF := pI q2 hF
    refine st_tableIn (t := 40) h dX9_mostOfValue_1 (by rw [q2]; decide) (by rw [q2]; decide) (by rw [q2]; rfl) (by decide) ?_
    refine st_bipush (v := 9) h dX9_mostOfValue_40 (by decide) ?_
    cases hF
    exact st_iret h hr dX9_mostOfValue_42
  have hF := qI q2 hF
  by_cases q3 : i0 = 3
  · have hF := pI q3 hF
    refine st_tableIn (t := 46) h dX9_mostOfValue_1 (by rw [q3]; decide) (by rw [q3]; decide) (by rw [q3]; rfl) (by decide) ?_
    refine st_bipush (v := 20) h dX9_mostOfValue_46 (by decide) ?_
    cases hF
    exact st_iret h hr dX9_mostOfValue_48
  have hF := qI q3 hF
  by_cases q4 : i0 = 4
  · have hF := pI q4 hF
    refine st_tableIn (t := 43) h dX9_mostOfValue_1 (by rw [q4]; decide) (by rw [q4]; decide) (by rw [q4]; rfl) (by decide) ?_
    refine st_bipush (v := 99) h dX9_mostOfValue_43 (by decide) ?_
    cases hF
    exact st_iret h hr dX9_mostOfValue_45
  have hF := qI q4 hF
  by_cases q5 : i0 = 5
  · have hF := pI q5 hF
    refine st_tableIn (t := 43) h dX9_mostOfValue_1 (by rw [q5]; decide) (by rw [q5]; decide) (by rw [q5]; rfl) (by decide) ?_
    refine st_bipush (v := 99) h dX9_mostOfValue_43 (by decide) ?_
    cases hF
    exact st_iret h hr dX9_mostOfValue_45
  have hF := qI q5 hF
  refine st_tableOut (t := 46) h dX9_mostOfValue_1 (tsw_1_5 q1 q2 q3 q4 q5) (by decide) ?_
  refine st_bipush (v := 20) h dX9_mostOfValue_46 (by decide) ?_
  cases hF
  exact st_iret h hr dX9_mostOfValue_48
set_option maxRecDepth 100000 in
set_option maxHeartbeats 4000000 in
theorem w_X6_readValues_3 {p : Program} {l : Launch} {e : Env} {s : State} {m : MethodId} {args : Array Value} {below : List Frame} {meth : Method} {c : Code} {G : Gv} (h : Cx p s m args meth c G cX6_readValues 5 RX6) (hr : meth.sig.returnType = (some .boolean)) : ∀ (n : Nat) (σ : Sto) (i1 : Int32) (i3 : Int32) (i4 : Int32) (z : (Int32 × Sto)), F_X6_readValues_3 n σ i1 i3 i4 = some z → AW p l e (rmD 7 0 0) s m args below meth c (MQ below (QcR G shC νC (some (.int z.1)) (ovC z.2)) args s 0 0 (gA G)) 0 0 G 5 3 [some (.ref 2), some (.int i1), none, some (.int i3), some (.int i4)] [] shC νC (ovC σ) := by
  intro n
  induction n with
  | zero => intro σ i1 i3 i4 z hF; cases hF
  | succ n ih =>
    intro σ i1 i3 i4 z hF
    rw [F_X6_readValues_3] at hF
    refine st_iload_4 h dX6_readValues_3 ?_
    refine st_iload_3 h dX6_readValues_5 ?_
    refine st_icmp_gt (t := 73) h dX6_readValues_6 (by decide) (fun q1 => ?_) (fun q1 => ?_)
    · have hF := pI q1 hF
      refine st_ic_1 h dX6_readValues_73 ?_
      cases hF
      exact st_zret h hr (Or.inr rfl) dX6_readValues_74
    · have hF := qI q1 hF
      refine st_aload_0 h dX6_readValues_9 ?_
      refine st_iload_4 h dX6_readValues_10 ?_
      obtain ⟨x1, hx1, hF⟩ := bI hF
      refine st_cSt (vs := [.int i4]) (st := [.ref 2]) h (w_X6_wordOfValue hx1) mi_X6_wordOfValue ms_X6_wordOfValue ml_X6_121 dX6_readValues_12 rfl ⟨Nat.le_of_ble_eq_true rfl, Nat.le_of_ble_eq_true rfl⟩ (Nat.le_of_ble_eq_true rfl) rfl ?_
      obtain ⟨x2, hx2, hF⟩ := bI hF
      refine st_cVi (vs := [.retAddr x1]) (st := []) h (w_X6_isWord hx2) mi_X6_isWord mv_X6_isWord ml_X6_111 dX6_readValues_15 kC_2 rfl ⟨Nat.le_of_ble_eq_true rfl, Nat.le_of_ble_eq_true rfl⟩ (Nat.le_of_ble_eq_true rfl) rfl ?_
      refine st_if_ne (t := 27) h dX6_readValues_18 (by decide) (fun q2 => ?_) (fun q2 => ?_)
      · have hF := qI q2 hF
        refine st_aload_0 h dX6_readValues_27 ?_
        obtain ⟨x3, hx3, hF⟩ := bI hF
        refine st_cVv (vs := []) (st := []) h (w_X6_advance hx3) mi_X6_advance mv_X6_advance ml_X6_40 dX6_readValues_28 kC_2 rfl ⟨Nat.le_of_ble_eq_true rfl, Nat.le_of_ble_eq_true rfl⟩ (Nat.le_of_ble_eq_true rfl) rfl ?_
        refine st_aload_0 h dX6_readValues_31 ?_
        refine st_iload_4 h dX6_readValues_32 ?_
        obtain ⟨x4, hx4, hF⟩ := bI hF
        refine st_cSi (vs := [.int i4]) (st := [.ref 2]) h (w_X9_mostOfValue hx4) mi_X9_mostOfValue ms_X9_mostOfValue ml_X6_143 dX6_readValues_34 rfl ⟨Nat.le_of_ble_eq_true rfl, Nat.le_of_ble_eq_true rfl⟩ (Nat.le_of_ble_eq_true rfl) rfl ?_
        obtain ⟨x5, hx5, hF⟩ := bI hF
        refine st_cVi (vs := [.int x4]) (st := []) h (w_X6_readWhole hx5) mi_X6_readWhole mv_X6_readWhole ml_X6_147 dX6_readValues_37 kC_2 rfl ⟨Nat.le_of_ble_eq_true rfl, Nat.le_of_ble_eq_true rfl⟩ (Nat.le_of_ble_eq_true rfl) rfl ?_
        refine st_if_ne (t := 45) h dX6_readValues_40 (by decide) (fun q3 => ?_) (fun q3 => ?_)
        · have hF := qI q3 hF
          refine st_aload_0 h dX6_readValues_45 ?_
          obtain ⟨x6, hx6, hF⟩ := bI hF
          refine gX6_10 h fl_X6_31 dX6_readValues_46 hx6 ?_
          obtain ⟨g1, hF⟩ := gI hF
          refine gX9_3 h fl_X6_150 dX6_readValues_49 g1 ?_
          refine st_iload_4 h dX6_readValues_52 ?_
          refine st_ic_4 h dX6_readValues_54 ?_
          refine st_imul h dX6_readValues_55 ?_
          refine st_iload_1 h dX6_readValues_56 ?_
          refine st_iadd h dX6_readValues_57 ?_
          refine st_aload_0 h dX6_readValues_58 ?_
          refine gX6_5 h fl_X6_76 dX6_readValues_59 (congrArg Prod.fst kC_2) ?_
          obtain ⟨g2, hF⟩ := gI hF
          obtain ⟨s1, hs1, hF⟩ := swI hF
          refine isC h dX6_readValues_62 (sk_9_3 g1) g2 hs1 ?_
          refine st_aload_0 h dX6_readValues_63 ?_
          obtain ⟨x7, hx7, hF⟩ := bI hF
          refine st_cVv (vs := []) (st := []) h (w_X6_advance hx7) mi_X6_advance mv_X6_advance ml_X6_40 dX6_readValues_64 kC_2 rfl ⟨Nat.le_of_ble_eq_true rfl, Nat.le_of_ble_eq_true rfl⟩ (Nat.le_of_ble_eq_true rfl) rfl ?_
          refine st_iinc_4 (y := i4 + 1) h dX6_readValues_67 (ii_1 _) ?_
          refine st_goto (t := 3) h dX6_readValues_70 (by decide) ?_
          exact st_sub (ls_s (ls_s (ls_n (ls_s (ls_s ls_e))))) (ih x7 i1 i3 (i4 + 1) z hF)
        · have hF := pI q3 hF
          refine st_ic_0 h dX6_readValues_43 ?_
          cases hF
          exact st_zret h hr (Or.inl rfl) dX6_readValues_44
      · have hF := pI q2 hF
        refine st_aload_0 h dX6_readValues_21 ?_
        refine st_ic_1 h dX6_readValues_22 ?_
        obtain ⟨x8, hx8, hF⟩ := bI hF
        refine st_cVi (vs := [.int 1]) (st := []) h (w_X6_fail hx8) mi_X6_fail mv_X6_fail ml_X6_50 dX6_readValues_23 kC_2 rfl ⟨Nat.le_of_ble_eq_true rfl, Nat.le_of_ble_eq_true rfl⟩ (Nat.le_of_ble_eq_true rfl) rfl ?_
        obtain ⟨g3, hF⟩ := gI hF
        cases hF
        exact st_zret h hr g3 dX6_readValues_26
set_option maxRecDepth 100000 in
set_option maxHeartbeats 4000000 in
theorem w_X6_readValues {l : Launch} {G : Gv} {σ : Sto} {i1 : Int32} {i2 : Int32} {i3 : Int32} {z : (Int32 × Sto)} (hF : F_X6_readValues σ i1 i2 i3 = some z) : Con l yX6_readValues cX6_readValues 5 (some .boolean) 7 G shC νC [.ref 2, .int i1, .int i2, .int i3] (ovC σ) (some (.int z.1)) (ovC z.2) := by
  rw [F_X6_readValues] at hF
  refine Con_enter (own := RX6) 1 (lv := [some (.ref 2), some (.int i1), some (.int i2), some (.int i3), none]) mi_X6_readValues.2.2.2 rfl (Nat.le_of_ble_eq_true rfl) rfl (fun h hr hin => ?_)
  refine st_iload_2 h dX6_readValues_0 ?_
  refine st_istore_4 h dX6_readValues_1 ?_
  exact st_sub (ls_s (ls_s (ls_n (ls_s (ls_s ls_e))))) (w_X6_readValues_3 h hr FU σ i1 i3 i2 z hF)
set_option maxRecDepth 100000 in
set_option maxHeartbeats 4000000 in
theorem w_X6_readService_23 {p : Program} {l : Launch} {e : Env} {s : State} {m : MethodId} {args : Array Value} {below : List Frame} {meth : Method} {c : Code} {G : Gv} (h : Cx p s m args meth c G cX6_readService 2 RX6) (hr : meth.sig.returnType = (some .boolean)) : ∀ (σ : Sto) (z : (Int32 × Sto)), F_X6_readService_23 σ  = some z → AW p l e (rmD 9 0 0) s m args below meth c (MQ below (QcR G shC νC (some (.int z.1)) (ovC z.2)) args s 0 0 (gA G)) 0 0 G 2 23 [some (.ref 2), none] [] shC νC (ovC σ) := by
  intro σ z hF
  rw [F_X6_readService_23] at hF
  refine st_aload_0 h dX6_readService_23 ?_
  refine st_ic_4 h dX6_readService_24 ?_
  obtain ⟨x1, hx1, hF⟩ := bI hF
  refine st_cVi (vs := [.int 4]) (st := []) h (w_X6_fail hx1) mi_X6_fail mv_X6_fail ml_X6_50 dX6_readService_25 kC_2 rfl ⟨Nat.le_of_ble_eq_true rfl, Nat.le_of_ble_eq_true rfl⟩ (Nat.le_of_ble_eq_true rfl) rfl ?_
  obtain ⟨g1, hF⟩ := gI hF
  cases hF
  exact st_zret h hr g1 dX6_readService_28
set_option maxRecDepth 100000 in
set_option maxHeartbeats 4000000 in
theorem w_X6_readService_83 {p : Program} {l : Launch} {e : Env} {s : State} {m : MethodId} {args : Array Value} {below : List Frame} {meth : Method} {c : Code} {G : Gv} (h : Cx p s m args meth c G cX6_readService 2 RX6) (hr : meth.sig.returnType = (some .boolean)) : ∀ (σ : Sto) (z : (Int32 × Sto)), F_X6_readService_83 σ  = some z → AW p l e (rmD 9 0 0) s m args below meth c (MQ below (QcR G shC νC (some (.int z.1)) (ovC z.2)) args s 0 0 (gA G)) 0 0 G 2 83 [none, none] [] shC νC (ovC σ) := by
  intro σ z hF
  rw [F_X6_readService_83] at hF
  refine st_ic_1 h dX6_readService_83 ?_
  refine st_goto (t := 88) h dX6_readService_84 (by decide) ?_
  cases hF
  exact st_zret h hr (Or.inr rfl) dX6_readService_88
set_option maxRecDepth 100000 in
set_option maxHeartbeats 4000000 in
theorem w_X6_readService {l : Launch} {G : Gv} {σ : Sto} {z : (Int32 × Sto)} (hF : F_X6_readService σ  = some z) : Con l yX6_readService cX6_readService 2 (some .boolean) 9 G shC νC [.ref 2] (ovC σ) (some (.int z.1)) (ovC z.2) := by
  rw [F_X6_readService] at hF
  refine Con_enter (own := RX6) 1 (lv := [some (.ref 2), none]) mi_X6_readService.2.2.2 rfl (Nat.le_of_ble_eq_true rfl) rfl (fun h hr hin => ?_)
  refine st_aload_0 h dX6_readService_0 ?_
  obtain ⟨x1, hx1, hF⟩ := bI hF
  refine gX6_10 h fl_X6_31 dX6_readService_1 hx1 ?_
  obtain ⟨g1, hF⟩ := gI hF
  refine gX9_0 h fl_X6_54 dX6_readService_4 g1 ?_
  refine st_istore_1 h dX6_readService_7 ?_
  refine st_iload_1 h dX6_readService_8 ?_
  refine st_ic_4 h dX6_readService_9 ?_
  refine st_icmp_ge (t := 23) h dX6_readService_10 (by decide) (fun q1 => ?_) (fun q1 => ?_)
  · have hF := pI q1 hF
    exact st_sub (ls_s (ls_n ls_e)) (w_X6_readService_23 h hr σ  z hF)
  · have hF := qI q1 hF
    refine st_aload_0 h dX6_readService_13 ?_
    obtain ⟨x2, hx2, hF⟩ := bI hF
    refine gX6_10 h fl_X6_31 dX6_readService_14 hx2 ?_
    obtain ⟨g2, hF⟩ := gI hF
    refine gX9_1 h fl_X6_133 dX6_readService_17 g2 ?_
    refine st_if_le (t := 29) h dX6_readService_20 (by decide) (fun q2 => ?_) (fun q2 => ?_)
    · have hF := pI q2 hF
      refine st_aload_0 h dX6_readService_29 ?_
      refine st_iload_1 h dX6_readService_30 ?_
      obtain ⟨x3, hx3, hF⟩ := bI hF
      refine st_cVi (vs := [.int (σ.1 x1 0)]) (st := []) h (w_X6_readName hx3) mi_X6_readName mv_X6_readName ml_X6_136 dX6_readService_31 kC_2 rfl ⟨Nat.le_of_ble_eq_true rfl, Nat.le_of_ble_eq_true rfl⟩ (Nat.le_of_ble_eq_true rfl) rfl ?_
      refine st_if_ne (t := 39) h dX6_readService_34 (by decide) (fun q3 => ?_) (fun q3 => ?_)
      · have hF := qI q3 hF
        refine st_aload_0 h dX6_readService_39 ?_
        obtain ⟨x4, hx4, hF⟩ := bI hF
        refine gX6_10 h fl_X6_31 dX6_readService_40 hx4 ?_
        refine st_dup h rfl dX6_readService_43 ?_
        obtain ⟨g3, hF⟩ := gI hF
        refine gX9_0 h fl_X6_54 dX6_readService_44 g3 ?_
        refine st_ic_1 h dX6_readService_47 ?_
        refine st_iadd h dX6_readService_48 ?_
        obtain ⟨s1, hs1, hF⟩ := swI hF
        refine pX9_0 h fl_X6_54 dX6_readService_49 g3 hs1 ?_
        refine st_aload_0 h dX6_readService_52 ?_
        refine st_iload_1 h dX6_readService_53 ?_
        refine st_ic_0 h dX6_readService_54 ?_
        refine st_ic_3 h dX6_readService_55 ?_
        obtain ⟨x5, hx5, hF⟩ := bI hF
        refine st_cVi (vs := [.int (σ.1 x1 0), .int 0, .int 3]) (st := []) h (w_X6_readValues hx5) mi_X6_readValues mv_X6_readValues ml_X6_139 dX6_readService_56 kC_2 rfl ⟨Nat.le_of_ble_eq_true rfl, Nat.le_of_ble_eq_true rfl⟩ (Nat.le_of_ble_eq_true rfl) rfl ?_
        refine st_if_ne (t := 64) h dX6_readService_59 (by decide) (fun q4 => ?_) (fun q4 => ?_)
        · have hF := qI q4 hF
          refine st_aload_0 h dX6_readService_64 ?_
          refine st_ldcS (tx := "quality") (i := 5) h (by decide +kernel) dX6_readService_65 ?_
          obtain ⟨x6, hx6, hF⟩ := bI hF
          refine st_cVi (vs := [.retAddr 5]) (st := []) h (w_X6_isWord hx6) mi_X6_isWord mv_X6_isWord ml_X6_111 dX6_readService_67 kC_2 rfl ⟨Nat.le_of_ble_eq_true rfl, Nat.le_of_ble_eq_true rfl⟩ (Nat.le_of_ble_eq_true rfl) rfl ?_
          refine st_if_eq (t := 83) h dX6_readService_70 (by decide) (fun q5 => ?_) (fun q5 => ?_)
          · have hF := pI q5 hF
            exact st_sub (ls_n (ls_n ls_e)) (w_X6_readService_83 h hr x5.2  z hF)
          · have hF := qI q5 hF
            refine st_aload_0 h dX6_readService_73 ?_
            refine st_iload_1 h dX6_readService_74 ?_
            refine st_ic_4 h dX6_readService_75 ?_
            refine st_ic_5 h dX6_readService_76 ?_
            obtain ⟨x7, hx7, hF⟩ := bI hF
            refine st_cVi (vs := [.int (σ.1 x1 0), .int 4, .int 5]) (st := []) h (w_X6_readValues hx7) mi_X6_readValues mv_X6_readValues ml_X6_139 dX6_readService_77 kC_2 rfl ⟨Nat.le_of_ble_eq_true rfl, Nat.le_of_ble_eq_true rfl⟩ (Nat.le_of_ble_eq_true rfl) rfl ?_
            refine st_if_eq (t := 87) h dX6_readService_80 (by decide) (fun q6 => ?_) (fun q6 => ?_)
            · have hF := pI q6 hF
              refine st_ic_0 h dX6_readService_87 ?_
              cases hF
              exact st_zret h hr (Or.inl rfl) dX6_readService_88
            · have hF := qI q6 hF
              exact st_sub (ls_n (ls_n ls_e)) (w_X6_readService_83 h hr x7.2  z hF)
        · have hF := pI q4 hF
          refine st_ic_0 h dX6_readService_62 ?_
          cases hF
          exact st_zret h hr (Or.inl rfl) dX6_readService_63
      · have hF := pI q3 hF
        refine st_ic_0 h dX6_readService_37 ?_
        cases hF
        exact st_zret h hr (Or.inl rfl) dX6_readService_38
    · have hF := qI q2 hF
      exact st_sub (ls_s (ls_n ls_e)) (w_X6_readService_23 h hr σ  z hF)
set_option maxRecDepth 100000 in
set_option maxHeartbeats 4000000 in
theorem w_X6_readLine_30 {p : Program} {l : Launch} {e : Env} {s : State} {m : MethodId} {args : Array Value} {below : List Frame} {meth : Method} {c : Code} {G : Gv} (h : Cx p s m args meth c G cX6_readLine 2 RX6) (hr : meth.sig.returnType = (some .boolean)) : ∀ (n : Nat) (σ : Sto) (i1 : Int32) (z : (Int32 × Sto)), F_X6_readLine_30 n σ i1 = some z → AW p l e (rmD 10 0 0) s m args below meth c (MQ below (QcR G shC νC (some (.int z.1)) (ovC z.2)) args s 0 0 (gA G)) 0 0 G 2 30 [some (.ref 2), some (.int i1)] [] shC νC (ovC σ) := by
  intro n
  induction n with
  | zero => intro σ i1 z hF; cases hF
  | succ n ih =>
    intro σ i1 z hF
    rw [F_X6_readLine_30] at hF
    refine st_iload_1 h dX6_readLine_30 ?_
    refine st_ic_4 h dX6_readLine_31 ?_
    refine st_icmp_ge (t := 58) h dX6_readLine_32 (by decide) (fun q1 => ?_) (fun q1 => ?_)
    · have hF := pI q1 hF
      refine st_aload_0 h dX6_readLine_58 ?_
      refine st_ic_1 h dX6_readLine_59 ?_
      obtain ⟨x1, hx1, hF⟩ := bI hF
      refine st_cVi (vs := [.int 1]) (st := []) h (w_X6_fail hx1) mi_X6_fail mv_X6_fail ml_X6_50 dX6_readLine_60 kC_2 rfl ⟨Nat.le_of_ble_eq_true rfl, Nat.le_of_ble_eq_true rfl⟩ (Nat.le_of_ble_eq_true rfl) rfl ?_
      obtain ⟨g1, hF⟩ := gI hF
      cases hF
      exact st_zret h hr g1 dX6_readLine_63
    · have hF := qI q1 hF
      refine st_aload_0 h dX6_readLine_35 ?_
      refine st_iload_1 h dX6_readLine_36 ?_
      obtain ⟨x2, hx2, hF⟩ := bI hF
      refine st_cSt (vs := [.int i1]) (st := [.ref 2]) h (w_X6_wordOfRule hx2) mi_X6_wordOfRule ms_X6_wordOfRule ml_X6_117 dX6_readLine_37 rfl ⟨Nat.le_of_ble_eq_true rfl, Nat.le_of_ble_eq_true rfl⟩ (Nat.le_of_ble_eq_true rfl) rfl ?_
      obtain ⟨x3, hx3, hF⟩ := bI hF
      refine st_cVi (vs := [.retAddr x2]) (st := []) h (w_X6_isWord hx3) mi_X6_isWord mv_X6_isWord ml_X6_111 dX6_readLine_40 kC_2 rfl ⟨Nat.le_of_ble_eq_true rfl, Nat.le_of_ble_eq_true rfl⟩ (Nat.le_of_ble_eq_true rfl) rfl ?_
      refine st_if_eq (t := 52) h dX6_readLine_43 (by decide) (fun q2 => ?_) (fun q2 => ?_)
      · have hF := pI q2 hF
        refine st_iinc_1 (y := i1 + 1) h dX6_readLine_52 (ii_1 _) ?_
        refine st_goto (t := 30) h dX6_readLine_55 (by decide) ?_
        exact st_sub (ls_s (ls_s ls_e)) (ih σ (i1 + 1) z hF)
      · have hF := qI q2 hF
        refine st_aload_0 h dX6_readLine_46 ?_
        refine st_iload_1 h dX6_readLine_47 ?_
        obtain ⟨x4, hx4, hF⟩ := bI hF
        refine st_cVi (vs := [.int i1]) (st := []) h (w_X6_readRule hx4) mi_X6_readRule mv_X6_readRule ml_X6_130 dX6_readLine_48 kC_2 rfl ⟨Nat.le_of_ble_eq_true rfl, Nat.le_of_ble_eq_true rfl⟩ (Nat.le_of_ble_eq_true rfl) rfl ?_
        obtain ⟨g2, hF⟩ := gI hF
        cases hF
        exact st_zret h hr g2 dX6_readLine_51
set_option maxRecDepth 100000 in
set_option maxHeartbeats 4000000 in
theorem w_X6_readLine {l : Launch} {G : Gv} {σ : Sto} {z : (Int32 × Sto)} (hF : F_X6_readLine σ  = some z) : Con l yX6_readLine cX6_readLine 2 (some .boolean) 10 G shC νC [.ref 2] (ovC σ) (some (.int z.1)) (ovC z.2) := by
  rw [F_X6_readLine] at hF
  refine Con_enter (own := RX6) 1 (lv := [some (.ref 2), none]) mi_X6_readLine.2.2.2 rfl (Nat.le_of_ble_eq_true rfl) rfl (fun h hr hin => ?_)
  refine st_aload_0 h dX6_readLine_0 ?_
  refine st_ldcS (tx := "service") (i := 0) h (by decide +kernel) dX6_readLine_1 ?_
  obtain ⟨x1, hx1, hF⟩ := bI hF
  refine st_cVi (vs := [.retAddr 0]) (st := []) h (w_X6_isWord hx1) mi_X6_isWord mv_X6_isWord ml_X6_111 dX6_readLine_3 kC_2 rfl ⟨Nat.le_of_ble_eq_true rfl, Nat.le_of_ble_eq_true rfl⟩ (Nat.le_of_ble_eq_true rfl) rfl ?_
  refine st_if_eq (t := 14) h dX6_readLine_6 (by decide) (fun q1 => ?_) (fun q1 => ?_)
  · have hF := pI q1 hF
    refine st_aload_0 h dX6_readLine_14 ?_
    refine st_ldcS (tx := "buyer") (i := 7) h (by decide +kernel) dX6_readLine_15 ?_
    obtain ⟨x2, hx2, hF⟩ := bI hF
    refine st_cVi (vs := [.retAddr 7]) (st := []) h (w_X6_isWord hx2) mi_X6_isWord mv_X6_isWord ml_X6_111 dX6_readLine_17 kC_2 rfl ⟨Nat.le_of_ble_eq_true rfl, Nat.le_of_ble_eq_true rfl⟩ (Nat.le_of_ble_eq_true rfl) rfl ?_
    refine st_if_eq (t := 28) h dX6_readLine_20 (by decide) (fun q2 => ?_) (fun q2 => ?_)
    · have hF := pI q2 hF
      refine st_ic_0 h dX6_readLine_28 ?_
      refine st_istore_1 h dX6_readLine_29 ?_
      exact st_sub (ls_s (ls_s ls_e)) (w_X6_readLine_30 h hr FU σ 0 z hF)
    · have hF := qI q2 hF
      refine st_aload_0 h dX6_readLine_23 ?_
      obtain ⟨x3, hx3, hF⟩ := bI hF
      refine st_cVi (vs := []) (st := []) h (w_X6_readBuyer hx3) mi_X6_readBuyer mv_X6_readBuyer ml_X6_127 dX6_readLine_24 kC_2 rfl ⟨Nat.le_of_ble_eq_true rfl, Nat.le_of_ble_eq_true rfl⟩ (Nat.le_of_ble_eq_true rfl) rfl ?_
      obtain ⟨g1, hF⟩ := gI hF
      cases hF
      exact st_zret h hr g1 dX6_readLine_27
  · have hF := qI q1 hF
    refine st_aload_0 h dX6_readLine_9 ?_
    obtain ⟨x4, hx4, hF⟩ := bI hF
    refine st_cVi (vs := []) (st := []) h (w_X6_readService hx4) mi_X6_readService mv_X6_readService ml_X6_124 dX6_readLine_10 kC_2 rfl ⟨Nat.le_of_ble_eq_true rfl, Nat.le_of_ble_eq_true rfl⟩ (Nat.le_of_ble_eq_true rfl) rfl ?_
    obtain ⟨g2, hF⟩ := gI hF
    cases hF
    exact st_zret h hr g2 dX6_readLine_13
set_option maxRecDepth 100000 in
set_option maxHeartbeats 4000000 in
theorem w_X6_readText_130 {p : Program} {l : Launch} {e : Env} {s : State} {m : MethodId} {args : Array Value} {below : List Frame} {meth : Method} {c : Code} {G : Gv} (h : Cx p s m args meth c G cX6_readText 6 RX6) (hr : meth.sig.returnType = (some .boolean)) : ∀ (σ : Sto) (z : (Int32 × Sto)), F_X6_readText_130 σ  = some z → AW p l e (rmD 11 0 0) s m args below meth c (MQ below (QcR G shC νC (some (.int z.1)) (ovC z.2)) args s 0 0 (gA G)) 0 0 G 6 130 [none, none, none, none, none, none] [] shC νC (ovC σ) := by
  intro σ z hF
  rw [F_X6_readText_130] at hF
  refine st_ic_1 h dX6_readText_130 ?_
  refine st_goto (t := 135) h dX6_readText_131 (by decide) ?_
  cases hF
  exact st_zret h hr (Or.inr rfl) dX6_readText_135
set_option maxRecDepth 100000 in
set_option maxHeartbeats 4000000 in
theorem w_X6_readText_92 {p : Program} {l : Launch} {e : Env} {s : State} {m : MethodId} {args : Array Value} {below : List Frame} {meth : Method} {c : Code} {G : Gv} (h : Cx p s m args meth c G cX6_readText 6 RX6) (hr : meth.sig.returnType = (some .boolean)) : ∀ (σ : Sto) (i4 : Int32) (z : (Int32 × Sto)), F_X6_readText_92 σ i4 = some z → AW p l e (rmD 11 0 0) s m args below meth c (MQ below (QcR G shC νC (some (.int z.1)) (ovC z.2)) args s 0 0 (gA G)) 0 0 G 6 92 [some (.ref 2), none, none, none, some (.int i4), none] [] shC νC (ovC σ) := by
  intro σ i4 z hF
  rw [F_X6_readText_92] at hF
  refine st_iload_4 h dX6_readText_92 ?_
  refine st_if_ne (t := 99) h dX6_readText_94 (by decide) (fun q1 => ?_) (fun q1 => ?_)
  · have hF := qI q1 hF
    refine st_aload_0 h dX6_readText_99 ?_
    refine gX6_3 h fl_X6_47 dX6_readText_100 (congrArg Prod.fst kC_2) ?_
    refine st_if_eq (t := 112) h dX6_readText_103 (by decide) (fun q2 => ?_) (fun q2 => ?_)
    · have hF := pI q2 hF
      refine st_aload_0 h dX6_readText_112 ?_
      obtain ⟨x1, hx1, hF⟩ := bI hF
      refine gX6_10 h fl_X6_31 dX6_readText_113 hx1 ?_
      obtain ⟨g1, hF⟩ := gI hF
      refine gX9_0 h fl_X6_54 dX6_readText_116 g1 ?_
      refine st_if_gt (t := 130) h dX6_readText_119 (by decide) (fun q3 => ?_) (fun q3 => ?_)
      · have hF := pI q3 hF
        exact st_sub (ls_n (ls_n (ls_n (ls_n (ls_n (ls_n ls_e)))))) (w_X6_readText_130 h hr σ  z hF)
      · have hF := qI q3 hF
        refine st_aload_0 h dX6_readText_122 ?_
        refine st_ic_5 h dX6_readText_123 ?_
        obtain ⟨x2, hx2, hF⟩ := bI hF
        refine st_cVi (vs := [.int 5]) (st := []) h (w_X6_fail hx2) mi_X6_fail mv_X6_fail ml_X6_50 dX6_readText_124 kC_2 rfl ⟨Nat.le_of_ble_eq_true rfl, Nat.le_of_ble_eq_true rfl⟩ (Nat.le_of_ble_eq_true rfl) rfl ?_
        refine st_if_eq (t := 134) h dX6_readText_127 (by decide) (fun q4 => ?_) (fun q4 => ?_)
        · have hF := pI q4 hF
          refine st_ic_0 h dX6_readText_134 ?_
          cases hF
          exact st_zret h hr (Or.inl rfl) dX6_readText_135
        · have hF := qI q4 hF
          exact st_sub (ls_n (ls_n (ls_n (ls_n (ls_n (ls_n ls_e)))))) (w_X6_readText_130 h hr x2.2  z hF)
    · have hF := qI q2 hF
      refine st_aload_0 h dX6_readText_106 ?_
      refine st_ic_1 h dX6_readText_107 ?_
      obtain ⟨x3, hx3, hF⟩ := bI hF
      refine st_cVi (vs := [.int 1]) (st := []) h (w_X6_fail hx3) mi_X6_fail mv_X6_fail ml_X6_50 dX6_readText_108 kC_2 rfl ⟨Nat.le_of_ble_eq_true rfl, Nat.le_of_ble_eq_true rfl⟩ (Nat.le_of_ble_eq_true rfl) rfl ?_
      obtain ⟨g2, hF⟩ := gI hF
      cases hF
      exact st_zret h hr g2 dX6_readText_111
  · have hF := pI q1 hF
    refine st_ic_0 h dX6_readText_97 ?_
    cases hF
    exact st_zret h hr (Or.inl rfl) dX6_readText_98
set_option maxRecDepth 100000 in
set_option maxHeartbeats 4000000 in
theorem w_X6_readText_55 {p : Program} {l : Launch} {e : Env} {s : State} {m : MethodId} {args : Array Value} {below : List Frame} {meth : Method} {c : Code} {G : Gv} (h : Cx p s m args meth c G cX6_readText 6 RX6) (hr : meth.sig.returnType = (some .boolean)) : ∀ (n : Nat) (σ : Sto) (i4 : Int32) (i5 : Int32) (z : (Int32 × Sto)), F_X6_readText_55 n σ i4 i5 = some z → AW p l e (rmD 11 0 0) s m args below meth c (MQ below (QcR G shC νC (some (.int z.1)) (ovC z.2)) args s 0 0 (gA G)) 0 0 G 6 55 [some (.ref 2), none, none, none, some (.int i4), some (.int i5)] [] shC νC (ovC σ) := by
  intro n
  induction n with
  | zero => intro σ i4 i5 z hF; cases hF
  | succ n ih =>
    intro σ i4 i5 z hF
    rw [F_X6_readText_55] at hF
    refine st_iload_5 h dX6_readText_55 ?_
    refine st_sipush (v := 500) h dX6_readText_57 (by decide) ?_
    refine st_icmp_ge (t := 92) h dX6_readText_60 (by decide) (fun q1 => ?_) (fun q1 => ?_)
    · have hF := pI q1 hF
      exact st_sub (ls_s (ls_n (ls_n (ls_n (ls_s (ls_n ls_e)))))) (w_X6_readText_92 h hr σ i4 z hF)
    · have hF := qI q1 hF
      refine st_iload_4 h dX6_readText_63 ?_
      refine st_if_eq (t := 92) h dX6_readText_65 (by decide) (fun q2 => ?_) (fun q2 => ?_)
      · have hF := pI q2 hF
        exact st_sub (ls_s (ls_n (ls_n (ls_n (ls_s (ls_n ls_e)))))) (w_X6_readText_92 h hr σ i4 z hF)
      · have hF := qI q2 hF
        refine st_aload_0 h dX6_readText_68 ?_
        refine gX6_3 h fl_X6_47 dX6_readText_69 (congrArg Prod.fst kC_2) ?_
        refine st_ic_3 h dX6_readText_72 ?_
        refine st_icmp_ne (t := 92) h dX6_readText_73 (by decide) (fun q3 => ?_) (fun q3 => ?_)
        · have hF := qI q3 hF
          exact st_sub (ls_s (ls_n (ls_n (ls_n (ls_s (ls_n ls_e)))))) (w_X6_readText_92 h hr σ i4 z hF)
        · have hF := pI q3 hF
          refine st_aload_0 h dX6_readText_76 ?_
          obtain ⟨x1, hx1, hF⟩ := bI hF
          refine st_cVv (vs := []) (st := []) h (w_X6_advance hx1) mi_X6_advance mv_X6_advance ml_X6_40 dX6_readText_77 kC_2 rfl ⟨Nat.le_of_ble_eq_true rfl, Nat.le_of_ble_eq_true rfl⟩ (Nat.le_of_ble_eq_true rfl) rfl ?_
          refine st_aload_0 h dX6_readText_80 ?_
          obtain ⟨x2, hx2, hF⟩ := bI hF
          refine st_cVi (vs := []) (st := []) h (w_X6_readLine hx2) mi_X6_readLine mv_X6_readLine ml_X6_43 dX6_readText_81 kC_2 rfl ⟨Nat.le_of_ble_eq_true rfl, Nat.le_of_ble_eq_true rfl⟩ (Nat.le_of_ble_eq_true rfl) rfl ?_
          refine st_istore_4 h dX6_readText_84 ?_
          refine st_iinc_5 (y := i5 + 1) h dX6_readText_86 (ii_1 _) ?_
          refine st_goto (t := 55) h dX6_readText_89 (by decide) ?_
          exact st_sub (ls_s (ls_n (ls_n (ls_n (ls_s (ls_s ls_e)))))) (ih x2.2 x2.1 (i5 + 1) z hF)
set_option maxRecDepth 100000 in
set_option maxHeartbeats 4000000 in
theorem w_X6_readText {l : Launch} {G : Gv} {σ : Sto} {a1 : Nat} {i2 : Int32} {a3 : Nat} {z : (Int32 × Sto)} (hF : F_X6_readText σ a1 i2 a3 = some z) : Con l yX6_readText cX6_readText 6 (some .boolean) 11 G shC νC [.ref 2, .ref a1, .int i2, .ref a3] (ovC σ) (some (.int z.1)) (ovC z.2) := by
  rw [F_X6_readText] at hF
  refine Con_enter (own := RX6) 2 (lv := [some (.ref 2), some (.ref a1), some (.int i2), some (.ref a3), none, none]) mi_X6_readText.2.2.2 rfl (Nat.le_of_ble_eq_true rfl) rfl (fun h hr hin => ?_)
  refine st_aload_0 h dX6_readText_0 ?_
  refine st_aload_1 h dX6_readText_1 ?_
  obtain ⟨s1, hs1, hF⟩ := swI hF
  refine pX6_0 h fl_X6_9 dX6_readText_2 hs1 ?_
  refine st_aload_0 h dX6_readText_5 ?_
  refine st_iload_2 h dX6_readText_6 ?_
  obtain ⟨s2, hs2, hF⟩ := swI hF
  refine pX6_1 h fl_X6_15 dX6_readText_7 (congrArg Prod.fst kC_2) hs2 ?_
  refine st_aload_0 h dX6_readText_10 ?_
  refine st_ic_0 h dX6_readText_11 ?_
  obtain ⟨s3, hs3, hF⟩ := swI hF
  refine pX6_2 h fl_X6_19 dX6_readText_12 (congrArg Prod.fst kC_2) hs3 ?_
  refine st_aload_0 h dX6_readText_15 ?_
  refine st_ic_0 h dX6_readText_16 ?_
  obtain ⟨s4, hs4, hF⟩ := swI hF
  refine pX6_7 h fl_X6_22 dX6_readText_17 (congrArg Prod.fst kC_2) hs4 ?_
  refine st_aload_0 h dX6_readText_20 ?_
  refine st_ic_0 h dX6_readText_21 ?_
  obtain ⟨s5, hs5, hF⟩ := swI hF
  refine pX6_8 h fl_X6_25 dX6_readText_22 (congrArg Prod.fst kC_2) hs5 ?_
  refine st_aload_0 h dX6_readText_25 ?_
  refine st_ic_0 h dX6_readText_26 ?_
  obtain ⟨s6, hs6, hF⟩ := swI hF
  refine pX6_9 h fl_X6_28 dX6_readText_27 (congrArg Prod.fst kC_2) hs6 ?_
  refine st_aload_0 h dX6_readText_30 ?_
  refine st_aload_3 h dX6_readText_31 ?_
  obtain ⟨s7, hs7, hF⟩ := swI hF
  refine pX6_10 h fl_X6_31 dX6_readText_32 hs7 ?_
  refine st_aload_0 h dX6_readText_35 ?_
  obtain ⟨x1, hx1, hF⟩ := bI hF
  refine gX6_10 h fl_X6_31 dX6_readText_36 hx1 ?_
  obtain ⟨g1, hF⟩ := gI hF
  obtain ⟨x2, hx2, hF⟩ := bI hF
  refine st_cVv (vs := []) (st := []) h (w_X9_clear hx2) mi_X9_clear mv_X9_clear ml_X6_35 dX6_readText_39 (shC_e g1) rfl ⟨Nat.le_of_ble_eq_true rfl, Nat.le_of_ble_eq_true rfl⟩ (Nat.le_of_ble_eq_true rfl) rfl ?_
  refine st_aload_0 h dX6_readText_42 ?_
  obtain ⟨x3, hx3, hF⟩ := bI hF
  refine st_cVv (vs := []) (st := []) h (w_X6_advance hx3) mi_X6_advance mv_X6_advance ml_X6_40 dX6_readText_43 kC_2 rfl ⟨Nat.le_of_ble_eq_true rfl, Nat.le_of_ble_eq_true rfl⟩ (Nat.le_of_ble_eq_true rfl) rfl ?_
  refine st_aload_0 h dX6_readText_46 ?_
  obtain ⟨x4, hx4, hF⟩ := bI hF
  refine st_cVi (vs := []) (st := []) h (w_X6_readLine hx4) mi_X6_readLine mv_X6_readLine ml_X6_43 dX6_readText_47 kC_2 rfl ⟨Nat.le_of_ble_eq_true rfl, Nat.le_of_ble_eq_true rfl⟩ (Nat.le_of_ble_eq_true rfl) rfl ?_
  refine st_istore_4 h dX6_readText_50 ?_
  refine st_ic_0 h dX6_readText_52 ?_
  refine st_istore_5 h dX6_readText_53 ?_
  exact st_sub (ls_s (ls_n (ls_n (ls_n (ls_s (ls_s ls_e)))))) (w_X6_readText_55 h hr FU x4.2 x4.1 0 z hF)
set_option maxRecDepth 100000 in
set_option maxHeartbeats 4000000 in
theorem w_X9_valueOf {l : Launch} {G : Gv} {σ : Sto} {a0 : Nat} {i1 : Int32} {i2 : Int32} {z : Int32} (hF : F_X9_valueOf σ a0 i1 i2 = some z) : Con l yX9_valueOf cX9_valueOf 3 (some .int) 1 G shC νC [.ref a0, .int i1, .int i2] (ovC σ) (some (.int z)) (ovC σ) := by
  rw [F_X9_valueOf] at hF
  refine Con_enter (own := RX9) 0 (lv := [some (.ref a0), some (.int i1), some (.int i2)]) mi_X9_valueOf.2.2.2 rfl (Nat.le_of_ble_eq_true rfl) rfl (fun h hr hin => ?_)
  refine st_aload_0 h dX9_valueOf_0 ?_
  obtain ⟨g1, hF⟩ := gI hF
  refine gX9_3 h fl_X9_15 dX9_valueOf_1 g1 ?_
  refine st_iload_1 h dX9_valueOf_4 ?_
  refine st_ic_4 h dX9_valueOf_5 ?_
  refine st_imul h dX9_valueOf_6 ?_
  refine st_iload_2 h dX9_valueOf_7 ?_
  refine st_iadd h dX9_valueOf_8 ?_
  obtain ⟨g2, hF⟩ := gI hF
  refine iaC h dX9_valueOf_9 (sk_9_3 g1) g2 ?_
  cases hF
  exact st_iret h hr dX9_valueOf_10
set_option maxRecDepth 100000 in
set_option maxHeartbeats 4000000 in
theorem w_X9_fillTables_15 {p : Program} {l : Launch} {e : Env} {s : State} {m : MethodId} {args : Array Value} {below : List Frame} {meth : Method} {c : Code} {G : Gv} (h : Cx p s m args meth c G cX9_fillTables 6 RX9) (hr : meth.sig.returnType = none) {k2 : Sto → Nat → Int32 → Option Sto} (H2 : ∀ (σ : Sto) (a0 : Nat) (i1 : Int32) (z : Sto), k2 σ a0 i1 = some z → AW p l e (rmD 2 0 0) s m args below meth c (MQ below (QcR G shC νC none (ovC z)) args s 0 0 (gA G)) 0 0 G 6 2 [some (.ref a0), some (.int i1), none, none, none, none] [] shC νC (ovC σ)) : ∀ (n : Nat) (σ : Sto) (a0 : Nat) (i1 : Int32) (i2 : Int32) (i3 : Int32) (z : Sto), F_X9_fillTables_15 k2 n σ a0 i1 i2 i3 = some z → AW p l e (rmD 2 0 0) s m args below meth c (MQ below (QcR G shC νC none (ovC z)) args s 0 0 (gA G)) 0 0 G 6 15 [some (.ref a0), some (.int i1), some (.int i2), some (.int i3), none, none] [] shC νC (ovC σ) := by
  intro n
  induction n with
  | zero => intro σ a0 i1 i2 i3 z hF; cases hF
  | succ n ih =>
    intro σ a0 i1 i2 i3 z hF
    rw [F_X9_fillTables_15] at hF
    refine st_iload_3 h dX9_fillTables_15 ?_
    refine st_if_lt (t := 105) h dX9_fillTables_16 (by decide) (fun q1 => ?_) (fun q1 => ?_)
    · have hF := pI q1 hF
      refine st_iinc_1 (y := i1 + 1) h dX9_fillTables_105 (ii_1 _) ?_
      refine st_goto (t := 2) h dX9_fillTables_108 (by decide) ?_
      exact st_sub (ls_s (ls_s (ls_n (ls_n (ls_n (ls_n ls_e)))))) (H2 σ a0 (i1 + 1) z hF)
    · have hF := qI q1 hF
      refine st_ic_0 h dX9_fillTables_19 ?_
      refine st_aload_0 h dX9_fillTables_20 ?_
      refine st_ic_1 h dX9_fillTables_21 ?_
      refine st_iload_1 h dX9_fillTables_22 ?_
      obtain ⟨g1, hF⟩ := gI hF
      obtain ⟨x1, hx1, hF⟩ := bI hF
      refine st_cVi (vs := [.int 1, .int i1]) (st := [.int 0]) h (w_X9_valueOf hx1) mi_X9_valueOf mv_X9_valueOf ml_X9_47 dX9_fillTables_23 (shC_e g1) rfl ⟨Nat.le_of_ble_eq_true rfl, Nat.le_of_ble_eq_true rfl⟩ (Nat.le_of_ble_eq_true rfl) rfl ?_
      refine st_aload_0 h dX9_fillTables_26 ?_
      refine st_ic_2 h dX9_fillTables_27 ?_
      refine st_iload_1 h dX9_fillTables_28 ?_
      obtain ⟨x2, hx2, hF⟩ := bI hF
      refine st_cVi (vs := [.int 2, .int i1]) (st := [.int x1, .int 0]) h (w_X9_valueOf hx2) mi_X9_valueOf mv_X9_valueOf ml_X9_47 dX9_fillTables_29 (shC_e g1) rfl ⟨Nat.le_of_ble_eq_true rfl, Nat.le_of_ble_eq_true rfl⟩ (Nat.le_of_ble_eq_true rfl) rfl ?_
      refine st_iload_3 h dX9_fillTables_32 ?_
      refine st_imul h dX9_fillTables_33 ?_
      refine st_isub h dX9_fillTables_34 ?_
      refine st_max h ml_X9_51 mt_max.1 mt_max.2.1 mt_max.2.2 dX9_fillTables_35 ⟨Nat.le_of_ble_eq_true rfl, Nat.le_of_ble_eq_true rfl⟩ (Nat.le_of_ble_eq_true rfl) ⟨Nat.zero_le _, Nat.zero_le _⟩ ?_
      obtain ⟨v1, hv1, hF⟩ := swI hF
      refine st_nmi hv1 ?_
      refine st_istore_4 h dX9_fillTables_38 ?_
      refine st_iload_4 h dX9_fillTables_40 ?_
      refine st_iload_3 h dX9_fillTables_42 ?_
      refine st_aload_0 h dX9_fillTables_43 ?_
      refine st_ic_3 h dX9_fillTables_44 ?_
      refine st_iload_1 h dX9_fillTables_45 ?_
      obtain ⟨x3, hx3, hF⟩ := bI hF
      refine st_cVi (vs := [.int 3, .int i1]) (st := [.int i3, .int v1]) h (w_X9_valueOf hx3) mi_X9_valueOf mv_X9_valueOf ml_X9_47 dX9_fillTables_46 (shC_e g1) rfl ⟨Nat.le_of_ble_eq_true rfl, Nat.le_of_ble_eq_true rfl⟩ (Nat.le_of_ble_eq_true rfl) rfl ?_
      refine st_isub h dX9_fillTables_49 ?_
      refine st_imul h dX9_fillTables_50 ?_
      refine st_istore_5 h dX9_fillTables_51 ?_
      refine st_aload_0 h dX9_fillTables_53 ?_
      refine gX9_6 h fl_X9_25 dX9_fillTables_54 g1 ?_
      refine st_iload_1 h dX9_fillTables_57 ?_
      refine st_bipush (v := 21) h dX9_fillTables_58 (by decide) ?_
      refine st_imul h dX9_fillTables_60 ?_
      refine st_iload_3 h dX9_fillTables_61 ?_
      refine st_iadd h dX9_fillTables_62 ?_
      refine st_iload_4 h dX9_fillTables_63 ?_
      obtain ⟨g2, hF⟩ := gI hF
      obtain ⟨s1, hs1, hF⟩ := swI hF
      refine isC h dX9_fillTables_65 (sk_9_6 g1) g2 hs1 ?_
      refine st_aload_0 h dX9_fillTables_66 ?_
      refine gX9_7 h fl_X9_28 dX9_fillTables_67 g1 ?_
      refine st_iload_1 h dX9_fillTables_70 ?_
      refine st_bipush (v := 21) h dX9_fillTables_71 (by decide) ?_
      refine st_imul h dX9_fillTables_73 ?_
      refine st_iload_3 h dX9_fillTables_74 ?_
      refine st_iadd h dX9_fillTables_75 ?_
      refine st_iload_5 h dX9_fillTables_76 ?_
      obtain ⟨s2, hs2, hF⟩ := swI hF
      refine isC h dX9_fillTables_78 (sk_9_7 g1) g2 hs2 ?_
      refine st_aload_0 h dX9_fillTables_79 ?_
      refine gX9_8 h fl_X9_31 dX9_fillTables_80 g1 ?_
      refine st_iload_1 h dX9_fillTables_83 ?_
      refine st_bipush (v := 21) h dX9_fillTables_84 (by decide) ?_
      refine st_imul h dX9_fillTables_86 ?_
      refine st_iload_3 h dX9_fillTables_87 ?_
      refine st_iadd h dX9_fillTables_88 ?_
      refine st_iload_2 h dX9_fillTables_89 ?_
      refine st_iload_5 h dX9_fillTables_90 ?_
      refine st_iadd h dX9_fillTables_92 ?_
      obtain ⟨s3, hs3, hF⟩ := swI hF
      refine isC h dX9_fillTables_93 (sk_9_8 g1) g2 hs3 ?_
      refine st_iload_2 h dX9_fillTables_94 ?_
      refine st_iload_4 h dX9_fillTables_95 ?_
      refine st_iadd h dX9_fillTables_97 ?_
      refine st_istore_2 h dX9_fillTables_98 ?_
      refine st_iinc_3 (y := i3 + (-1)) h dX9_fillTables_99 (ii_m1 _) ?_
      refine st_goto (t := 15) h dX9_fillTables_102 (by decide) ?_
      exact st_sub (ls_s (ls_s (ls_s (ls_s (ls_n (ls_n ls_e)))))) (ih s3 a0 i1 (i2 + v1) (i3 + (-1)) z hF)
set_option maxRecDepth 100000 in
set_option maxHeartbeats 4000000 in
theorem w_X9_fillTables_2 {p : Program} {l : Launch} {e : Env} {s : State} {m : MethodId} {args : Array Value} {below : List Frame} {meth : Method} {c : Code} {G : Gv} (h : Cx p s m args meth c G cX9_fillTables 6 RX9) (hr : meth.sig.returnType = none) : ∀ (n : Nat) (σ : Sto) (a0 : Nat) (i1 : Int32) (z : Sto), F_X9_fillTables_2 n σ a0 i1 = some z → AW p l e (rmD 2 0 0) s m args below meth c (MQ below (QcR G shC νC none (ovC z)) args s 0 0 (gA G)) 0 0 G 6 2 [some (.ref a0), some (.int i1), none, none, none, none] [] shC νC (ovC σ) := by
  intro n
  induction n with
  | zero => intro σ a0 i1 z hF; cases hF
  | succ n ih =>
    intro σ a0 i1 z hF
    rw [F_X9_fillTables_2] at hF
    refine st_iload_1 h dX9_fillTables_2 ?_
    refine st_aload_0 h dX9_fillTables_3 ?_
    obtain ⟨g1, hF⟩ := gI hF
    refine gX9_0 h fl_X9_34 dX9_fillTables_4 g1 ?_
    refine st_icmp_ge (t := 111) h dX9_fillTables_7 (by decide) (fun q1 => ?_) (fun q1 => ?_)
    · have hF := pI q1 hF
      cases hF
      exact st_vret h hr dX9_fillTables_111
    · have hF := qI q1 hF
      refine st_ic_0 h dX9_fillTables_10 ?_
      refine st_istore_2 h dX9_fillTables_11 ?_
      refine st_bipush (v := 20) h dX9_fillTables_12 (by decide) ?_
      refine st_istore_3 h dX9_fillTables_14 ?_
      exact st_sub (ls_s (ls_s (ls_s (ls_s (ls_n (ls_n ls_e)))))) (w_X9_fillTables_15 h hr ih FU σ a0 i1 0 20 z hF)
set_option maxRecDepth 100000 in
set_option maxHeartbeats 4000000 in
theorem w_X9_fillTables {l : Launch} {G : Gv} {σ : Sto} {a0 : Nat} {z : Sto} (hF : F_X9_fillTables σ a0 = some z) : Con l yX9_fillTables cX9_fillTables 6 none 2 G shC νC [.ref a0] (ovC σ) none (ovC z) := by
  rw [F_X9_fillTables] at hF
  refine Con_enter (own := RX9) 5 (lv := [some (.ref a0), none, none, none, none, none]) mi_X9_fillTables.2.2.2 rfl (Nat.le_of_ble_eq_true rfl) rfl (fun h hr hin => ?_)
  refine st_ic_0 h dX9_fillTables_0 ?_
  refine st_istore_1 h dX9_fillTables_1 ?_
  exact st_sub (ls_s (ls_s (ls_n (ls_n (ls_n (ls_n ls_e)))))) (w_X9_fillTables_2 h hr FU σ a0 0 z hF)
set_option maxRecDepth 100000 in
set_option maxHeartbeats 4000000 in
theorem w_X10_begin_12 {p : Program} {l : Launch} {e : Env} {s : State} {m : MethodId} {args : Array Value} {below : List Frame} {meth : Method} {c : Code} {G : Gv} (h : Cx p s m args meth c G cX10_begin 3 RX10) (hr : meth.sig.returnType = none) : ∀ (n : Nat) (σ : Sto) (a0 : Nat) (a1 : Nat) (i2 : Int32) (z : Sto), F_X10_begin_12 n σ a0 a1 i2 = some z → AW p l e (rmD 2 0 0) s m args below meth c (MQ below (QcR G shC νC none (ovC z)) args s 0 0 (gA G)) 0 0 G 3 12 [some (.ref a0), some (.ref a1), some (.int i2)] [] shC νC (ovC σ) := by
  intro n
  induction n with
  | zero => intro σ a0 a1 i2 z hF; cases hF
  | succ n ih =>
    intro σ a0 a1 i2 z hF
    rw [F_X10_begin_12] at hF
    refine st_iload_2 h dX10_begin_12 ?_
    refine st_ic_4 h dX10_begin_13 ?_
    refine st_icmp_ge (t := 59) h dX10_begin_14 (by decide) (fun q1 => ?_) (fun q1 => ?_)
    · have hF := pI q1 hF
      refine st_aload_1 h dX10_begin_59 ?_
      obtain ⟨g1, hF⟩ := gI hF
      refine gX9_5 h fl_X10_37 dX10_begin_60 g1 ?_
      refine st_ic_0 h dX10_begin_63 ?_
      refine st_aload_0 h dX10_begin_64 ?_
      obtain ⟨g2, hF⟩ := gI hF
      refine gX10_5 h fl_X10_21 dX10_begin_65 g2 ?_
      refine st_ic_0 h dX10_begin_68 ?_
      refine st_ic_4 h dX10_begin_69 ?_
      obtain ⟨s1, hs1, hF⟩ := swI hF
      refine cpC h ml_X10_38 dX10_begin_70 (sk_9_5 g1) (sk_10_5 g2) (by decide) (by decide) (by decide) (by decide) (by decide) ⟨Nat.le_of_ble_eq_true rfl, Nat.le_of_ble_eq_true rfl⟩ hs1 ?_
      cases hF
      exact st_vret h hr dX10_begin_73
    · have hF := qI q1 hF
      refine st_aload_0 h dX10_begin_17 ?_
      obtain ⟨g3, hF⟩ := gI hF
      refine gX10_2 h fl_X10_9 dX10_begin_18 g3 ?_
      refine st_iload_2 h dX10_begin_21 ?_
      refine st_aload_1 h dX10_begin_22 ?_
      refine st_ic_0 h dX10_begin_23 ?_
      refine st_iload_2 h dX10_begin_24 ?_
      obtain ⟨g4, hF⟩ := gI hF
      obtain ⟨x1, hx1, hF⟩ := bI hF
      refine st_cVi (vs := [.int 0, .int i2]) (st := [.int i2, .ref (a0 + 1)]) h (w_X9_valueOf hx1) mi_X9_valueOf mv_X9_valueOf ml_X10_33 dX10_begin_25 (shC_e g4) rfl ⟨Nat.le_of_ble_eq_true rfl, Nat.le_of_ble_eq_true rfl⟩ (Nat.le_of_ble_eq_true rfl) rfl ?_
      obtain ⟨g5, hF⟩ := gI hF
      obtain ⟨s2, hs2, hF⟩ := swI hF
      refine isC h dX10_begin_28 (sk_10_2 g3) g5 hs2 ?_
      refine st_aload_0 h dX10_begin_29 ?_
      refine gX10_3 h fl_X10_15 dX10_begin_30 g3 ?_
      refine st_iload_2 h dX10_begin_33 ?_
      refine st_aload_0 h dX10_begin_34 ?_
      refine gX10_2 h fl_X10_9 dX10_begin_35 g3 ?_
      refine st_iload_2 h dX10_begin_38 ?_
      refine iaC h dX10_begin_39 (sk_10_2 g3) g5 ?_
      obtain ⟨s3, hs3, hF⟩ := swI hF
      refine isC h dX10_begin_40 (sk_10_3 g3) g5 hs3 ?_
      refine st_aload_0 h dX10_begin_41 ?_
      refine gX10_4 h fl_X10_18 dX10_begin_42 g3 ?_
      refine st_iload_2 h dX10_begin_45 ?_
      refine st_aload_1 h dX10_begin_46 ?_
      refine st_ic_4 h dX10_begin_47 ?_
      refine st_iload_2 h dX10_begin_48 ?_
      obtain ⟨x2, hx2, hF⟩ := bI hF
      refine st_cVi (vs := [.int 4, .int i2]) (st := [.int i2, .ref (a0 + 3)]) h (w_X9_valueOf hx2) mi_X9_valueOf mv_X9_valueOf ml_X10_33 dX10_begin_49 (shC_e g4) rfl ⟨Nat.le_of_ble_eq_true rfl, Nat.le_of_ble_eq_true rfl⟩ (Nat.le_of_ble_eq_true rfl) rfl ?_
      obtain ⟨s4, hs4, hF⟩ := swI hF
      refine isC h dX10_begin_52 (sk_10_4 g3) g5 hs4 ?_
      refine st_iinc_2 (y := i2 + 1) h dX10_begin_53 (ii_1 _) ?_
      refine st_goto (t := 12) h dX10_begin_56 (by decide) ?_
      exact st_sub (ls_s (ls_s (ls_s ls_e))) (ih s4 a0 a1 (i2 + 1) z hF)
set_option maxRecDepth 100000 in
set_option maxHeartbeats 4000000 in
theorem w_X10_begin {l : Launch} {G : Gv} {σ : Sto} {a0 : Nat} {a1 : Nat} {z : Sto} (hF : F_X10_begin σ a0 a1 = some z) : Con l yX10_begin cX10_begin 3 none 2 G shC νC [.ref a0, .ref a1] (ovC σ) none (ovC z) := by
  rw [F_X10_begin] at hF
  refine Con_enter (own := RX10) 1 (lv := [some (.ref a0), some (.ref a1), none]) mi_X10_begin.2.2.2 rfl (Nat.le_of_ble_eq_true rfl) rfl (fun h hr hin => ?_)
  refine st_aload_0 h dX10_begin_0 ?_
  refine st_ic_0 h dX10_begin_1 ?_
  obtain ⟨g1, hF⟩ := gI hF
  obtain ⟨s1, hs1, hF⟩ := swI hF
  refine pX10_0 h fl_X10_24 dX10_begin_2 g1 hs1 ?_
  refine st_aload_0 h dX10_begin_5 ?_
  refine st_ic_0 h dX10_begin_6 ?_
  obtain ⟨s2, hs2, hF⟩ := swI hF
  refine pX10_1 h fl_X10_28 dX10_begin_7 g1 hs2 ?_
  refine st_ic_0 h dX10_begin_10 ?_
  refine st_istore_2 h dX10_begin_11 ?_
  exact st_sub (ls_s (ls_s (ls_s ls_e))) (w_X10_begin_12 h hr FU s2 a0 a1 0 z hF)
set_option maxRecDepth 100000 in
set_option maxHeartbeats 4000000 in
theorem w_X5_clear {l : Launch} {G : Gv} {σ : Sto} {z : Sto} (hF : F_X5_clear σ  = some z) : Con l yX5_clear cX5_clear 1 none 1 G shC νC [.ref 10] (ovC σ) none (ovC z) := by
  rw [F_X5_clear] at hF
  refine Con_enter (own := RX5) 0 (lv := [some (.ref 10)]) mi_X5_clear.2.2.2 rfl (Nat.le_of_ble_eq_true rfl) rfl (fun h hr hin => ?_)
  refine st_aload_0 h dX5_clear_0 ?_
  refine st_ic_0 h dX5_clear_1 ?_
  obtain ⟨s1, hs1, hF⟩ := swI hF
  refine pX5_2 h fl_X5_16 dX5_clear_2 (congrArg Prod.fst kC_10) hs1 ?_
  cases hF
  exact st_vret h hr dX5_clear_5
set_option maxRecDepth 100000 in
set_option maxHeartbeats 4000000 in
theorem w_X2_forget {l : Launch} {G : Gv} {σ : Sto} {z : Sto} (hF : F_X2_forget σ  = some z) : Con l yX2_forget cX2_forget 1 none 1 G shC νC [.ref 75] (ovC σ) none (ovC z) := by
  rw [F_X2_forget] at hF
  refine Con_enter (own := RX2) 0 (lv := [some (.ref 75)]) mi_X2_forget.2.2.2 rfl (Nat.le_of_ble_eq_true rfl) rfl (fun h hr hin => ?_)
  refine st_aload_0 h dX2_forget_0 ?_
  refine gX2_1 h fl_X2_12 dX2_forget_1 (congrArg Prod.fst kC_75) ?_
  refine st_ic_0 h dX2_forget_4 ?_
  obtain ⟨s1, hs1, hF⟩ := swI hF
  refine pX7_0 h fl_X2_31 dX2_forget_5 (congrArg Prod.fst kC_76) (Or.inl rfl) hs1 ?_
  refine st_aload_0 h dX2_forget_8 ?_
  refine gX2_2 h fl_X2_18 dX2_forget_9 (congrArg Prod.fst kC_75) ?_
  refine st_ic_0 h dX2_forget_12 ?_
  obtain ⟨s2, hs2, hF⟩ := swI hF
  refine pX7_0 h fl_X2_31 dX2_forget_13 (congrArg Prod.fst kC_78) (Or.inl rfl) hs2 ?_
  refine st_aload_0 h dX2_forget_16 ?_
  refine gX2_3 h fl_X2_21 dX2_forget_17 (congrArg Prod.fst kC_75) ?_
  refine st_ic_0 h dX2_forget_20 ?_
  obtain ⟨s3, hs3, hF⟩ := swI hF
  refine pX7_0 h fl_X2_31 dX2_forget_21 (congrArg Prod.fst kC_80) (Or.inl rfl) hs3 ?_
  refine st_aload_0 h dX2_forget_24 ?_
  refine gX2_4 h fl_X2_24 dX2_forget_25 (congrArg Prod.fst kC_75) ?_
  refine st_ic_0 h dX2_forget_28 ?_
  obtain ⟨s4, hs4, hF⟩ := swI hF
  refine pX7_0 h fl_X2_31 dX2_forget_29 (congrArg Prod.fst kC_82) (Or.inl rfl) hs4 ?_
  refine st_aload_0 h dX2_forget_32 ?_
  refine st_ic_m1 h dX2_forget_33 ?_
  obtain ⟨s5, hs5, hF⟩ := swI hF
  refine pX2_6 h fl_X2_35 dX2_forget_34 (congrArg Prod.fst kC_75) hs5 ?_
  cases hF
  exact st_vret h hr dX2_forget_37
set_option maxRecDepth 100000 in
set_option maxHeartbeats 4000000 in
theorem w_X4_forgetFresh {l : Launch} {G : Gv} {σ : Sto} {z : Sto} (hF : F_X4_forgetFresh σ  = some z) : Con l yX4_forgetFresh cX4_forgetFresh 1 none 1 G shC νC [.ref 84] (ovC σ) none (ovC z) := by
  rw [F_X4_forgetFresh] at hF
  refine Con_enter (own := RX4) 0 (lv := [some (.ref 84)]) mi_X4_forgetFresh.2.2.2 rfl (Nat.le_of_ble_eq_true rfl) rfl (fun h hr hin => ?_)
  refine st_aload_0 h dX4_forgetFresh_0 ?_
  refine st_ic_0 h dX4_forgetFresh_1 ?_
  obtain ⟨s1, hs1, hF⟩ := swI hF
  refine pX4_7 h fl_X4_39 dX4_forgetFresh_2 (congrArg Prod.fst kC_84) (Or.inl rfl) hs1 ?_
  refine st_aload_0 h dX4_forgetFresh_5 ?_
  refine st_ic_0 h dX4_forgetFresh_6 ?_
  obtain ⟨s2, hs2, hF⟩ := swI hF
  refine pX4_9 h fl_X4_43 dX4_forgetFresh_7 (congrArg Prod.fst kC_84) (Or.inl rfl) hs2 ?_
  cases hF
  exact st_vret h hr dX4_forgetFresh_10
set_option maxRecDepth 100000 in
set_option maxHeartbeats 4000000 in
theorem w_X4_forgetAll {l : Launch} {G : Gv} {σ : Sto} {z : Sto} (hF : F_X4_forgetAll σ  = some z) : Con l yX4_forgetAll cX4_forgetAll 1 none 2 G shC νC [.ref 84] (ovC σ) none (ovC z) := by
  rw [F_X4_forgetAll] at hF
  refine Con_enter (own := RX4) 0 (lv := [some (.ref 84)]) mi_X4_forgetAll.2.2.2 rfl (Nat.le_of_ble_eq_true rfl) rfl (fun h hr hin => ?_)
  refine st_aload_0 h dX4_forgetAll_0 ?_
  obtain ⟨x1, hx1, hF⟩ := bI hF
  refine st_cVv (vs := []) (st := []) h (w_X4_forgetFresh hx1) mi_X4_forgetFresh mv_X4_forgetFresh ml_X4_46 dX4_forgetAll_1 kC_84 rfl ⟨Nat.le_of_ble_eq_true rfl, Nat.le_of_ble_eq_true rfl⟩ (Nat.le_of_ble_eq_true rfl) rfl ?_
  refine st_aload_0 h dX4_forgetAll_4 ?_
  refine st_ic_m1 h dX4_forgetAll_5 ?_
  obtain ⟨s1, hs1, hF⟩ := swI hF
  refine pX4_6 h fl_X4_49 dX4_forgetAll_6 (congrArg Prod.fst kC_84) hs1 ?_
  cases hF
  exact st_vret h hr dX4_forgetAll_9
set_option maxRecDepth 100000 in
set_option maxHeartbeats 4000000 in
theorem w_X11_forgetAll {l : Launch} {G : Gv} {σ : Sto} {z : Sto} (hF : F_X11_forgetAll σ  = some z) : Con l yX11_forgetAll cX11_forgetAll 1 none 3 G shC νC [.ref 0] (ovC σ) none (ovC z) := by
  rw [F_X11_forgetAll] at hF
  refine Con_enter (own := RX11) 0 (lv := [some (.ref 0)]) mi_X11_forgetAll.2.2.2 rfl (Nat.le_of_ble_eq_true rfl) rfl (fun h hr hin => ?_)
  refine st_aload_0 h dX11_forgetAll_0 ?_
  refine gX11_7 h fl_X11_59 dX11_forgetAll_1 (congrArg Prod.fst kC_0) ?_
  obtain ⟨x1, hx1, hF⟩ := bI hF
  refine st_cVv (vs := []) (st := []) h (w_X2_forget hx1) mi_X2_forget mv_X2_forget ml_X11_382 dX11_forgetAll_4 kC_75 rfl ⟨Nat.le_of_ble_eq_true rfl, Nat.le_of_ble_eq_true rfl⟩ (Nat.le_of_ble_eq_true rfl) rfl ?_
  refine st_aload_0 h dX11_forgetAll_7 ?_
  refine gX11_8 h fl_X11_66 dX11_forgetAll_8 (congrArg Prod.fst kC_0) ?_
  obtain ⟨x2, hx2, hF⟩ := bI hF
  refine st_cVv (vs := []) (st := []) h (w_X4_forgetAll hx2) mi_X4_forgetAll mv_X4_forgetAll ml_X11_385 dX11_forgetAll_11 kC_84 rfl ⟨Nat.le_of_ble_eq_true rfl, Nat.le_of_ble_eq_true rfl⟩ (Nat.le_of_ble_eq_true rfl) rfl ?_
  cases hF
  exact st_vret h hr dX11_forgetAll_14
set_option maxRecDepth 100000 in
set_option maxHeartbeats 4000000 in
theorem w_X11_beginText_32 {p : Program} {l : Launch} {e : Env} {s : State} {m : MethodId} {args : Array Value} {below : List Frame} {meth : Method} {c : Code} {G : Gv} (h : Cx p s m args meth c G cX11_beginText 2 RX11) (hr : meth.sig.returnType = none) : ∀ (n : Nat) (σ : Sto) (i1 : Int32) (z : Sto), F_X11_beginText_32 n σ i1 = some z → AW p l e (rmD 4 0 0) s m args below meth c (MQ below (QcR G shC νC none (ovC z)) args s 0 0 (gA G)) 0 0 G 2 32 [some (.ref 0), some (.int i1)] [] shC νC (ovC σ) := by
  intro n
  induction n with
  | zero => intro σ i1 z hF; cases hF
  | succ n ih =>
    intro σ i1 z hF
    rw [F_X11_beginText_32] at hF
    refine st_iload_1 h dX11_beginText_32 ?_
    refine st_ic_2 h dX11_beginText_33 ?_
    refine st_icmp_ge (t := 53) h dX11_beginText_34 (by decide) (fun q1 => ?_) (fun q1 => ?_)
    · have hF := pI q1 hF
      refine st_aload_0 h dX11_beginText_53 ?_
      obtain ⟨x1, hx1, hF⟩ := bI hF
      refine st_cVv (vs := []) (st := []) h (w_X11_forgetAll hx1) mi_X11_forgetAll mv_X11_forgetAll ml_X11_332 dX11_beginText_54 kC_0 rfl ⟨Nat.le_of_ble_eq_true rfl, Nat.le_of_ble_eq_true rfl⟩ (Nat.le_of_ble_eq_true rfl) rfl ?_
      cases hF
      exact st_vret h hr dX11_beginText_57
    · have hF := qI q1 hF
      refine st_aload_0 h dX11_beginText_37 ?_
      refine gX11_5 h fl_X11_43 dX11_beginText_38 (congrArg Prod.fst kC_0) ?_
      refine st_iload_1 h dX11_beginText_41 ?_
      obtain ⟨g1, hF⟩ := gI hF
      refine aaI h dX11_beginText_42 g1 ?_
      refine st_ic_0 h dX11_beginText_43 ?_
      obtain ⟨s1, hs1, hF⟩ := swI hF
      refine pX3_0 h fl_X11_353 dX11_beginText_44 (congrArg Prod.fst (sk_imgs _ (ib_lt g1))) (Or.inl rfl) hs1 ?_
      refine st_iinc_1 (y := i1 + 1) h dX11_beginText_47 (ii_1 _) ?_
      refine st_goto (t := 32) h dX11_beginText_50 (by decide) ?_
      exact st_sub (ls_s (ls_s ls_e)) (ih s1 (i1 + 1) z hF)
set_option maxRecDepth 100000 in
set_option maxHeartbeats 4000000 in
theorem w_X11_beginText {l : Launch} {G : Gv} {σ : Sto} {z : Sto} (hF : F_X11_beginText σ  = some z) : Con l yX11_beginText cX11_beginText 2 none 4 G shC νC [.ref 0] (ovC σ) none (ovC z) := by
  rw [F_X11_beginText] at hF
  refine Con_enter (own := RX11) 1 (lv := [some (.ref 0), none]) mi_X11_beginText.2.2.2 rfl (Nat.le_of_ble_eq_true rfl) rfl (fun h hr hin => ?_)
  refine st_aload_0 h dX11_beginText_0 ?_
  refine st_ic_1 h dX11_beginText_1 ?_
  obtain ⟨s1, hs1, hF⟩ := swI hF
  refine pX11_13 h fl_X11_131 dX11_beginText_2 (congrArg Prod.fst kC_0) (Or.inr rfl) hs1 ?_
  refine st_aload_0 h dX11_beginText_5 ?_
  obtain ⟨x1, hx1, hF⟩ := bI hF
  refine gX11_11 h fl_X11_83 dX11_beginText_6 hx1 ?_
  obtain ⟨g1, hF⟩ := gI hF
  obtain ⟨x2, hx2, hF⟩ := bI hF
  refine st_cVv (vs := []) (st := []) h (w_X9_fillTables hx2) mi_X9_fillTables mv_X9_fillTables ml_X11_375 dX11_beginText_9 (shC_e g1) rfl ⟨Nat.le_of_ble_eq_true rfl, Nat.le_of_ble_eq_true rfl⟩ (Nat.le_of_ble_eq_true rfl) rfl ?_
  refine st_aload_0 h dX11_beginText_12 ?_
  refine gX11_2 h fl_X11_23 dX11_beginText_13 (congrArg Prod.fst kC_0) ?_
  refine st_aload_0 h dX11_beginText_16 ?_
  obtain ⟨x3, hx3, hF⟩ := bI hF
  refine gX11_11 h fl_X11_83 dX11_beginText_17 hx3 ?_
  obtain ⟨x4, hx4, hF⟩ := bI hF
  refine st_cVv (vs := [.ref x3]) (st := []) h (w_X10_begin hx4) mi_X10_begin mv_X10_begin ml_X11_378 dX11_beginText_20 kC_3 rfl ⟨Nat.le_of_ble_eq_true rfl, Nat.le_of_ble_eq_true rfl⟩ (Nat.le_of_ble_eq_true rfl) rfl ?_
  refine st_aload_0 h dX11_beginText_23 ?_
  refine gX11_4 h fl_X11_37 dX11_beginText_24 (congrArg Prod.fst kC_0) ?_
  obtain ⟨x5, hx5, hF⟩ := bI hF
  refine st_cVv (vs := []) (st := []) h (w_X5_clear hx5) mi_X5_clear mv_X5_clear ml_X11_357 dX11_beginText_27 kC_10 rfl ⟨Nat.le_of_ble_eq_true rfl, Nat.le_of_ble_eq_true rfl⟩ (Nat.le_of_ble_eq_true rfl) rfl ?_
  refine st_ic_0 h dX11_beginText_30 ?_
  refine st_istore_1 h dX11_beginText_31 ?_
  exact st_sub (ls_s (ls_s ls_e)) (w_X11_beginText_32 h hr FU x5 0 z hF)
set_option maxRecDepth 100000 in
set_option maxHeartbeats 4000000 in
theorem w_X11_answer {l : Launch} {G : Gv} {σ : Sto} {i1 : Int32} {z : (Int32 × Sto)} (hF : F_X11_answer σ i1 = some z) : Con l yX11_answer cX11_answer 2 (some .int) 1 G shC νC [.ref 0, .int i1] (ovC σ) (some (.int z.1)) (ovC z.2) := by
  rw [F_X11_answer] at hF
  refine Con_enter (own := RX11) 0 (lv := [some (.ref 0), some (.int i1)]) mi_X11_answer.2.2.2 rfl (Nat.le_of_ble_eq_true rfl) rfl (fun h hr hin => ?_)
  refine st_aload_0 h dX11_answer_0 ?_
  refine st_ic_0 h dX11_answer_1 ?_
  obtain ⟨s1, hs1, hF⟩ := swI hF
  refine pX11_18 h fl_X11_128 dX11_answer_2 (congrArg Prod.fst kC_0) hs1 ?_
  refine st_iload_1 h dX11_answer_5 ?_
  cases hF
  exact st_iret h hr dX11_answer_6
set_option maxRecDepth 100000 in
set_option maxHeartbeats 4000000 in
theorem w_X11_text_12 {p : Program} {l : Launch} {e : Env} {s : State} {m : MethodId} {args : Array Value} {below : List Frame} {meth : Method} {c : Code} {G : Gv} (h : Cx p s m args meth c G cX11_text 4 RX11) (hr : meth.sig.returnType = (some .int)) : ∀ (σ : Sto) (z : (Int32 × Sto)), F_X11_text_12 σ  = some z → AW p l e (rmD 12 0 0) s m args below meth c (MQ below (QcR G shC νC (some (.int z.1)) (ovC z.2)) args s 0 0 (gA G)) 0 0 G 4 12 [some (.ref 0), none, none, none] [] shC νC (ovC σ) := by
  intro σ z hF
  rw [F_X11_text_12] at hF
  refine st_aload_0 h dX11_text_12 ?_
  refine st_ic_2 h dX11_text_13 ?_
  obtain ⟨x1, hx1, hF⟩ := bI hF
  refine st_cVi (vs := [.int 2]) (st := []) h (w_X11_refuse hx1) mi_X11_refuse mv_X11_refuse ml_X11_99 dX11_text_14 kC_0 rfl ⟨Nat.le_of_ble_eq_true rfl, Nat.le_of_ble_eq_true rfl⟩ (Nat.le_of_ble_eq_true rfl) rfl ?_
  cases hF
  exact st_iret h hr dX11_text_17
set_option maxRecDepth 100000 in
set_option maxHeartbeats 4000000 in
theorem w_X11_text {l : Launch} {G : Gv} {σ : Sto} {i1 : Int32} {z : (Int32 × Sto)} (hF : F_X11_text σ i1 = some z) : Con l yX11_text cX11_text 4 (some .int) 12 G shC νC [.ref 0, .int i1] (ovC σ) (some (.int z.1)) (ovC z.2) := by
  rw [F_X11_text] at hF
  refine Con_enter (own := RX11) 2 (lv := [some (.ref 0), some (.int i1), none, none]) mi_X11_text.2.2.2 rfl (Nat.le_of_ble_eq_true rfl) rfl (fun h hr hin => ?_)
  refine st_iload_1 h dX11_text_0 ?_
  refine st_if_lt (t := 12) h dX11_text_1 (by decide) (fun q1 => ?_) (fun q1 => ?_)
  · have hF := pI q1 hF
    exact st_sub (ls_s (ls_n (ls_n (ls_n ls_e)))) (w_X11_text_12 h hr σ  z hF)
  · have hF := qI q1 hF
    refine st_iload_1 h dX11_text_4 ?_
    refine st_aload_0 h dX11_text_5 ?_
    refine gX11_14 h fl_X11_91 dX11_text_6 (congrArg Prod.fst kC_0) ?_
    refine st_icmp_le (t := 18) h dX11_text_9 (by decide) (fun q2 => ?_) (fun q2 => ?_)
    · have hF := pI q2 hF
      refine st_aload_0 h dX11_text_18 ?_
      refine gX11_1 h fl_X11_16 dX11_text_19 (congrArg Prod.fst kC_0) ?_
      refine st_aload_0 h dX11_text_22 ?_
      refine gX11_0 h fl_X11_9 dX11_text_23 (congrArg Prod.fst kC_0) ?_
      refine st_iload_1 h dX11_text_26 ?_
      refine st_aload_0 h dX11_text_27 ?_
      obtain ⟨x1, hx1, hF⟩ := bI hF
      refine gX11_12 h fl_X11_87 dX11_text_28 hx1 ?_
      obtain ⟨x2, hx2, hF⟩ := bI hF
      refine st_cVi (vs := [.ref 1, .int i1, .ref x1]) (st := []) h (w_X6_readText hx2) mi_X6_readText mv_X6_readText ml_X11_103 dX11_text_31 kC_2 rfl ⟨Nat.le_of_ble_eq_true rfl, Nat.le_of_ble_eq_true rfl⟩ (Nat.le_of_ble_eq_true rfl) rfl ?_
      refine st_istore_2 h dX11_text_34 ?_
      refine st_aload_0 h dX11_text_35 ?_
      refine st_ic_0 h dX11_text_36 ?_
      obtain ⟨s1, hs1, hF⟩ := swI hF
      refine pX11_14 h fl_X11_91 dX11_text_37 (congrArg Prod.fst kC_0) hs1 ?_
      refine st_aload_0 h dX11_text_40 ?_
      refine st_aload_0 h dX11_text_41 ?_
      refine gX11_1 h fl_X11_16 dX11_text_42 (congrArg Prod.fst kC_0) ?_
      refine gX6_8 h fl_X11_107 dX11_text_45 (congrArg Prod.fst kC_2) ?_
      obtain ⟨s2, hs2, hF⟩ := swI hF
      refine pX11_16 h fl_X11_110 dX11_text_48 (congrArg Prod.fst kC_0) hs2 ?_
      refine st_iload_2 h dX11_text_51 ?_
      refine st_if_ne (t := 72) h dX11_text_52 (by decide) (fun q3 => ?_) (fun q3 => ?_)
      · have hF := qI q3 hF
        refine st_aload_0 h dX11_text_72 ?_
        obtain ⟨x3, hx3, hF⟩ := bI hF
        refine gX11_11 h fl_X11_83 dX11_text_73 hx3 ?_
        refine st_astore_3 h dX11_text_76 ?_
        refine st_aload_0 h dX11_text_77 ?_
        refine st_aload_0 h dX11_text_78 ?_
        obtain ⟨x4, hx4, hF⟩ := bI hF
        refine gX11_12 h fl_X11_87 dX11_text_79 hx4 ?_
        obtain ⟨s3, hs3, hF⟩ := swI hF
        refine pX11_11 h fl_X11_83 dX11_text_82 hs3 ?_
        refine st_aload_0 h dX11_text_85 ?_
        refine st_aload_3 h dX11_text_86 ?_
        obtain ⟨s4, hs4, hF⟩ := swI hF
        refine pX11_12 h fl_X11_87 dX11_text_87 hs4 ?_
        refine st_aload_0 h dX11_text_90 ?_
        obtain ⟨x5, hx5, hF⟩ := bI hF
        refine st_cVv (vs := []) (st := []) h (w_X11_beginText hx5) mi_X11_beginText mv_X11_beginText ml_X11_119 dX11_text_91 kC_0 rfl ⟨Nat.le_of_ble_eq_true rfl, Nat.le_of_ble_eq_true rfl⟩ (Nat.le_of_ble_eq_true rfl) rfl ?_
        refine st_aload_0 h dX11_text_94 ?_
        refine st_aload_0 h dX11_text_95 ?_
        obtain ⟨x6, hx6, hF⟩ := bI hF
        refine gX11_11 h fl_X11_83 dX11_text_96 hx6 ?_
        obtain ⟨g1, hF⟩ := gI hF
        refine gX9_0 h fl_X11_122 dX11_text_99 g1 ?_
        obtain ⟨x7, hx7, hF⟩ := bI hF
        refine st_cVi (vs := [.int (x5.1 x6 0)]) (st := []) h (w_X11_answer hx7) mi_X11_answer mv_X11_answer ml_X11_125 dX11_text_102 kC_0 rfl ⟨Nat.le_of_ble_eq_true rfl, Nat.le_of_ble_eq_true rfl⟩ (Nat.le_of_ble_eq_true rfl) rfl ?_
        cases hF
        exact st_iret h hr dX11_text_105
      · have hF := pI q3 hF
        refine st_aload_0 h dX11_text_55 ?_
        refine st_aload_0 h dX11_text_56 ?_
        refine gX11_1 h fl_X11_16 dX11_text_57 (congrArg Prod.fst kC_0) ?_
        refine gX6_9 h fl_X11_113 dX11_text_60 (congrArg Prod.fst kC_2) ?_
        obtain ⟨s5, hs5, hF⟩ := swI hF
        refine pX11_17 h fl_X11_116 dX11_text_63 (congrArg Prod.fst kC_0) hs5 ?_
        refine st_aload_0 h dX11_text_66 ?_
        refine st_ic_4 h dX11_text_67 ?_
        obtain ⟨x8, hx8, hF⟩ := bI hF
        refine st_cVi (vs := [.int 4]) (st := []) h (w_X11_refuse hx8) mi_X11_refuse mv_X11_refuse ml_X11_99 dX11_text_68 kC_0 rfl ⟨Nat.le_of_ble_eq_true rfl, Nat.le_of_ble_eq_true rfl⟩ (Nat.le_of_ble_eq_true rfl) rfl ?_
        cases hF
        exact st_iret h hr dX11_text_71
    · have hF := qI q2 hF
      exact st_sub (ls_s (ls_n (ls_n (ls_n ls_e)))) (w_X11_text_12 h hr σ  z hF)
set_option maxRecDepth 100000 in
set_option maxHeartbeats 4000000 in
theorem w_X11_fault {l : Launch} {G : Gv} {σ : Sto} {z : Int32} (hF : F_X11_fault σ  = some z) : Con l yX11_fault cX11_fault 1 (some .int) 1 G shC νC [.ref 0] (ovC σ) (some (.int z)) (ovC σ) := by
  rw [F_X11_fault] at hF
  refine Con_enter (own := RX11) 0 (lv := [some (.ref 0)]) mi_X11_fault.2.2.2 rfl (Nat.le_of_ble_eq_true rfl) rfl (fun h hr hin => ?_)
  refine st_aload_0 h dX11_fault_0 ?_
  refine gX11_16 h fl_X11_110 dX11_fault_1 (congrArg Prod.fst kC_0) ?_
  cases hF
  exact st_iret h hr dX11_fault_4
set_option maxRecDepth 100000 in
set_option maxHeartbeats 4000000 in
theorem w_X11_where {l : Launch} {G : Gv} {σ : Sto} {z : Int32} (hF : F_X11_where σ  = some z) : Con l yX11_where cX11_where 1 (some .int) 1 G shC νC [.ref 0] (ovC σ) (some (.int z)) (ovC σ) := by
  rw [F_X11_where] at hF
  refine Con_enter (own := RX11) 0 (lv := [some (.ref 0)]) mi_X11_where.2.2.2 rfl (Nat.le_of_ble_eq_true rfl) rfl (fun h hr hin => ?_)
  refine st_aload_0 h dX11_where_0 ?_
  refine gX11_18 h fl_X11_128 dX11_where_1 (congrArg Prod.fst kC_0) ?_
  refine st_ic_4 h dX11_where_4 ?_
  refine st_icmp_ne (t := 15) h dX11_where_5 (by decide) (fun q1 => ?_) (fun q1 => ?_)
  · have hF := qI q1 hF
    refine st_ic_m1 h dX11_where_15 ?_
    cases hF
    exact st_iret h hr dX11_where_16
  · have hF := pI q1 hF
    refine st_aload_0 h dX11_where_8 ?_
    refine gX11_17 h fl_X11_116 dX11_where_9 (congrArg Prod.fst kC_0) ?_
    refine st_goto (t := 16) h dX11_where_12 (by decide) ?_
    cases hF
    exact st_iret h hr dX11_where_16
set_option maxRecDepth 100000 in
set_option maxHeartbeats 4000000 in
theorem w_X10_rate {l : Launch} {G : Gv} {σ : Sto} {a0 : Nat} {z : Int32} (hF : F_X10_rate σ a0 = some z) : Con l yX10_rate cX10_rate 1 (some .int) 1 G shC νC [.ref a0] (ovC σ) (some (.int z)) (ovC σ) := by
  rw [F_X10_rate] at hF
  refine Con_enter (own := RX10) 0 (lv := [some (.ref a0)]) mi_X10_rate.2.2.2 rfl (Nat.le_of_ble_eq_true rfl) rfl (fun h hr hin => ?_)
  refine st_bipush (v := 100) h dX10_rate_0 (by decide) ?_
  refine st_aload_0 h dX10_rate_2 ?_
  obtain ⟨g1, hF⟩ := gI hF
  refine gX10_5 h fl_X10_21 dX10_rate_3 g1 ?_
  refine st_ic_0 h dX10_rate_6 ?_
  refine iaC h dX10_rate_7 (sk_10_5 g1) (by decide) ?_
  refine st_iadd h dX10_rate_8 ?_
  refine st_aload_0 h dX10_rate_9 ?_
  refine gX10_5 h fl_X10_21 dX10_rate_10 g1 ?_
  refine st_ic_1 h dX10_rate_13 ?_
  refine iaC h dX10_rate_14 (sk_10_5 g1) (by decide) ?_
  refine st_isub h dX10_rate_15 ?_
  cases hF
  exact st_iret h hr dX10_rate_16
set_option maxRecDepth 100000 in
set_option maxHeartbeats 4000000 in
theorem w_X9_together_5 {p : Program} {l : Launch} {e : Env} {s : State} {m : MethodId} {args : Array Value} {below : List Frame} {meth : Method} {c : Code} {G : Gv} (h : Cx p s m args meth c G cX9_together 5 RX9) (hr : meth.sig.returnType = (some .int)) : ∀ (n : Nat) (σ : Sto) (a0 : Nat) (a1 : Nat) (a2 : Nat) (i3 : Int32) (i4 : Int32) (z : Int32), F_X9_together_5 n σ a0 a1 a2 i3 i4 = some z → AW p l e (rmD 1 0 0) s m args below meth c (MQ below (QcR G shC νC (some (.int z)) (ovC σ)) args s 0 0 (gA G)) 0 0 G 5 5 [some (.ref a0), some (.ref a1), some (.ref a2), some (.int i3), some (.int i4)] [] shC νC (ovC σ) := by
  intro n
  induction n with
  | zero => intro σ a0 a1 a2 i3 i4 z hF; cases hF
  | succ n ih =>
    intro σ a0 a1 a2 i3 i4 z hF
    rw [F_X9_together_5] at hF
    refine st_iload_4 h dX9_together_5 ?_
    refine st_aload_0 h dX9_together_7 ?_
    obtain ⟨g1, hF⟩ := gI hF
    refine gX9_0 h fl_X9_34 dX9_together_8 g1 ?_
    refine st_icmp_ge (t := 35) h dX9_together_11 (by decide) (fun q1 => ?_) (fun q1 => ?_)
    · have hF := pI q1 hF
      refine st_iload_3 h dX9_together_35 ?_
      cases hF
      exact st_iret h hr dX9_together_36
    · have hF := qI q1 hF
      refine st_iload_3 h dX9_together_14 ?_
      refine st_aload_1 h dX9_together_15 ?_
      refine st_iload_4 h dX9_together_16 ?_
      refine st_bipush (v := 21) h dX9_together_18 (by decide) ?_
      refine st_imul h dX9_together_20 ?_
      refine st_aload_2 h dX9_together_21 ?_
      refine st_iload_4 h dX9_together_22 ?_
      obtain ⟨g2, hF⟩ := gI hF
      obtain ⟨g3, hF⟩ := gI hF
      refine iaC h dX9_together_24 g2 g3 ?_
      refine st_iadd h dX9_together_25 ?_
      obtain ⟨g4, hF⟩ := gI hF
      obtain ⟨g5, hF⟩ := gI hF
      refine iaC h dX9_together_26 g4 g5 ?_
      refine st_iadd h dX9_together_27 ?_
      obtain ⟨v1, hv1, hF⟩ := swI hF
      refine st_nmi hv1 ?_
      refine st_istore_3 h dX9_together_28 ?_
      refine st_iinc_4 (y := i4 + 1) h dX9_together_29 (ii_1 _) ?_
      refine st_goto (t := 5) h dX9_together_32 (by decide) ?_
      exact st_sub (ls_s (ls_s (ls_s (ls_s (ls_s ls_e))))) (ih σ a0 a1 a2 v1 (i4 + 1) z hF)
set_option maxRecDepth 100000 in
set_option maxHeartbeats 4000000 in
theorem w_X9_together {l : Launch} {G : Gv} {σ : Sto} {a0 : Nat} {a1 : Nat} {a2 : Nat} {z : Int32} (hF : F_X9_together σ a0 a1 a2 = some z) : Con l yX9_together cX9_together 5 (some .int) 1 G shC νC [.ref a0, .ref a1, .ref a2] (ovC σ) (some (.int z)) (ovC σ) := by
  rw [F_X9_together] at hF
  refine Con_enter (own := RX9) 2 (lv := [some (.ref a0), some (.ref a1), some (.ref a2), none, none]) mi_X9_together.2.2.2 rfl (Nat.le_of_ble_eq_true rfl) rfl (fun h hr hin => ?_)
  refine st_ic_0 h dX9_together_0 ?_
  refine st_istore_3 h dX9_together_1 ?_
  refine st_ic_0 h dX9_together_2 ?_
  refine st_istore_4 h dX9_together_3 ?_
  exact st_sub (ls_s (ls_s (ls_s (ls_s (ls_s ls_e))))) (w_X9_together_5 h hr FU σ a0 a1 a2 0 0 z hF)
set_option maxRecDepth 100000 in
set_option maxHeartbeats 4000000 in
theorem w_X10_weights {l : Launch} {G : Gv} {σ : Sto} {a0 : Nat} {a1 : Nat} {z : Int32} (hF : F_X10_weights σ a0 a1 = some z) : Con l yX10_weights cX10_weights 2 (some .int) 2 G shC νC [.ref a0, .ref a1] (ovC σ) (some (.int z)) (ovC σ) := by
  rw [F_X10_weights] at hF
  refine Con_enter (own := RX10) 0 (lv := [some (.ref a0), some (.ref a1)]) mi_X10_weights.2.2.2 rfl (Nat.le_of_ble_eq_true rfl) rfl (fun h hr hin => ?_)
  refine st_aload_1 h dX10_weights_0 ?_
  refine st_aload_1 h dX10_weights_1 ?_
  obtain ⟨g1, hF⟩ := gI hF
  refine gX9_6 h fl_X10_44 dX10_weights_2 g1 ?_
  refine st_aload_0 h dX10_weights_5 ?_
  obtain ⟨g2, hF⟩ := gI hF
  refine gX10_2 h fl_X10_9 dX10_weights_6 g2 ?_
  obtain ⟨x1, hx1, hF⟩ := bI hF
  refine st_cVi (vs := [.ref (a1 + 5), .ref (a0 + 1)]) (st := []) h (w_X9_together hx1) mi_X9_together mv_X9_together ml_X10_47 dX10_weights_9 (shC_e g1) rfl ⟨Nat.le_of_ble_eq_true rfl, Nat.le_of_ble_eq_true rfl⟩ (Nat.le_of_ble_eq_true rfl) rfl ?_
  cases hF
  exact st_iret h hr dX10_weights_12
set_option maxRecDepth 100000 in
set_option maxHeartbeats 4000000 in
theorem w_X9_costing_5 {p : Program} {l : Launch} {e : Env} {s : State} {m : MethodId} {args : Array Value} {below : List Frame} {meth : Method} {c : Code} {G : Gv} (h : Cx p s m args meth c G cX9_costing 5 RX9) (hr : meth.sig.returnType = (some .int)) : ∀ (n : Nat) (σ : Sto) (a0 : Nat) (a1 : Nat) (a2 : Nat) (i3 : Int32) (i4 : Int32) (z : Int32), F_X9_costing_5 n σ a0 a1 a2 i3 i4 = some z → AW p l e (rmD 1 0 0) s m args below meth c (MQ below (QcR G shC νC (some (.int z)) (ovC σ)) args s 0 0 (gA G)) 0 0 G 5 5 [some (.ref a0), some (.ref a1), some (.ref a2), some (.int i3), some (.int i4)] [] shC νC (ovC σ) := by
  intro n
  induction n with
  | zero => intro σ a0 a1 a2 i3 i4 z hF; cases hF
  | succ n ih =>
    intro σ a0 a1 a2 i3 i4 z hF
    rw [F_X9_costing_5] at hF
    refine st_iload_4 h dX9_costing_5 ?_
    refine st_aload_0 h dX9_costing_7 ?_
    obtain ⟨g1, hF⟩ := gI hF
    refine gX9_0 h fl_X9_34 dX9_costing_8 g1 ?_
    refine st_icmp_ge (t := 43) h dX9_costing_11 (by decide) (fun q1 => ?_) (fun q1 => ?_)
    · have hF := pI q1 hF
      refine st_iload_3 h dX9_costing_43 ?_
      cases hF
      exact st_iret h hr dX9_costing_44
    · have hF := qI q1 hF
      refine st_iload_3 h dX9_costing_14 ?_
      refine st_aload_1 h dX9_costing_15 ?_
      refine st_iload_4 h dX9_costing_16 ?_
      obtain ⟨g2, hF⟩ := gI hF
      obtain ⟨g3, hF⟩ := gI hF
      refine iaC h dX9_costing_18 g2 g3 ?_
      refine st_aload_0 h dX9_costing_19 ?_
      refine gX9_6 h fl_X9_25 dX9_costing_20 g1 ?_
      refine st_iload_4 h dX9_costing_23 ?_
      refine st_bipush (v := 21) h dX9_costing_25 (by decide) ?_
      refine st_imul h dX9_costing_27 ?_
      refine st_aload_2 h dX9_costing_28 ?_
      refine st_iload_4 h dX9_costing_29 ?_
      obtain ⟨g4, hF⟩ := gI hF
      refine iaC h dX9_costing_31 g4 g3 ?_
      refine st_iadd h dX9_costing_32 ?_
      obtain ⟨g5, hF⟩ := gI hF
      refine iaC h dX9_costing_33 (sk_9_6 g1) g5 ?_
      refine st_imul h dX9_costing_34 ?_
      refine st_iadd h dX9_costing_35 ?_
      obtain ⟨v1, hv1, hF⟩ := swI hF
      refine st_nmi hv1 ?_
      refine st_istore_3 h dX9_costing_36 ?_
      refine st_iinc_4 (y := i4 + 1) h dX9_costing_37 (ii_1 _) ?_
      refine st_goto (t := 5) h dX9_costing_40 (by decide) ?_
      exact st_sub (ls_s (ls_s (ls_s (ls_s (ls_s ls_e))))) (ih σ a0 a1 a2 v1 (i4 + 1) z hF)
set_option maxRecDepth 100000 in
set_option maxHeartbeats 4000000 in
theorem w_X9_costing {l : Launch} {G : Gv} {σ : Sto} {a0 : Nat} {a1 : Nat} {a2 : Nat} {z : Int32} (hF : F_X9_costing σ a0 a1 a2 = some z) : Con l yX9_costing cX9_costing 5 (some .int) 1 G shC νC [.ref a0, .ref a1, .ref a2] (ovC σ) (some (.int z)) (ovC σ) := by
  rw [F_X9_costing] at hF
  refine Con_enter (own := RX9) 2 (lv := [some (.ref a0), some (.ref a1), some (.ref a2), none, none]) mi_X9_costing.2.2.2 rfl (Nat.le_of_ble_eq_true rfl) rfl (fun h hr hin => ?_)
  refine st_ic_0 h dX9_costing_0 ?_
  refine st_istore_3 h dX9_costing_1 ?_
  refine st_ic_0 h dX9_costing_2 ?_
  refine st_istore_4 h dX9_costing_3 ?_
  exact st_sub (ls_s (ls_s (ls_s (ls_s (ls_s ls_e))))) (w_X9_costing_5 h hr FU σ a0 a1 a2 0 0 z hF)
set_option maxRecDepth 100000 in
set_option maxHeartbeats 4000000 in
theorem w_X10_duesOf {l : Launch} {G : Gv} {σ : Sto} {a0 : Nat} {a1 : Nat} {i2 : Int32} {z : Int32} (hF : F_X10_duesOf σ a0 a1 i2 = some z) : Con l yX10_duesOf cX10_duesOf 3 (some .int) 2 G shC νC [.ref a0, .ref a1, .int i2] (ovC σ) (some (.int z)) (ovC σ) := by
  rw [F_X10_duesOf] at hF
  refine Con_enter (own := RX10) 0 (lv := [some (.ref a0), some (.ref a1), some (.int i2)]) mi_X10_duesOf.2.2.2 rfl (Nat.le_of_ble_eq_true rfl) rfl (fun h hr hin => ?_)
  refine st_ic_0 h dX10_duesOf_0 ?_
  refine st_aload_1 h dX10_duesOf_1 ?_
  refine st_ic_5 h dX10_duesOf_2 ?_
  refine st_iload_2 h dX10_duesOf_3 ?_
  obtain ⟨g1, hF⟩ := gI hF
  obtain ⟨x1, hx1, hF⟩ := bI hF
  refine st_cVi (vs := [.int 5, .int i2]) (st := [.int 0]) h (w_X9_valueOf hx1) mi_X9_valueOf mv_X9_valueOf ml_X10_33 dX10_duesOf_4 (shC_e g1) rfl ⟨Nat.le_of_ble_eq_true rfl, Nat.le_of_ble_eq_true rfl⟩ (Nat.le_of_ble_eq_true rfl) rfl ?_
  refine st_aload_0 h dX10_duesOf_7 ?_
  obtain ⟨g2, hF⟩ := gI hF
  refine gX10_4 h fl_X10_18 dX10_duesOf_8 g2 ?_
  refine st_iload_2 h dX10_duesOf_11 ?_
  obtain ⟨g3, hF⟩ := gI hF
  refine iaC h dX10_duesOf_12 (sk_10_4 g2) g3 ?_
  refine st_isub h dX10_duesOf_13 ?_
  refine st_max h ml_X10_51 mt_max.1 mt_max.2.1 mt_max.2.2 dX10_duesOf_14 ⟨Nat.le_of_ble_eq_true rfl, Nat.le_of_ble_eq_true rfl⟩ (Nat.le_of_ble_eq_true rfl) ⟨Nat.zero_le _, Nat.zero_le _⟩ ?_
  refine st_aload_0 h dX10_duesOf_17 ?_
  refine gX10_5 h fl_X10_21 dX10_duesOf_18 g2 ?_
  refine st_ic_3 h dX10_duesOf_21 ?_
  refine iaC h dX10_duesOf_22 (sk_10_5 g2) (by decide) ?_
  refine st_imul h dX10_duesOf_23 ?_
  cases hF
  exact st_iret h hr dX10_duesOf_24
set_option maxRecDepth 100000 in
set_option maxHeartbeats 4000000 in
theorem w_X10_dues_4 {p : Program} {l : Launch} {e : Env} {s : State} {m : MethodId} {args : Array Value} {below : List Frame} {meth : Method} {c : Code} {G : Gv} (h : Cx p s m args meth c G cX10_dues 4 RX10) (hr : meth.sig.returnType = (some .int)) : ∀ (n : Nat) (σ : Sto) (a0 : Nat) (a1 : Nat) (i2 : Int32) (i3 : Int32) (z : Int32), F_X10_dues_4 n σ a0 a1 i2 i3 = some z → AW p l e (rmD 3 0 0) s m args below meth c (MQ below (QcR G shC νC (some (.int z)) (ovC σ)) args s 0 0 (gA G)) 0 0 G 4 4 [some (.ref a0), some (.ref a1), some (.int i2), some (.int i3)] [] shC νC (ovC σ) := by
  intro n
  induction n with
  | zero => intro σ a0 a1 i2 i3 z hF; cases hF
  | succ n ih =>
    intro σ a0 a1 i2 i3 z hF
    rw [F_X10_dues_4] at hF
    refine st_iload_3 h dX10_dues_4 ?_
    refine st_aload_1 h dX10_dues_5 ?_
    obtain ⟨g1, hF⟩ := gI hF
    refine gX9_0 h fl_X10_56 dX10_dues_6 g1 ?_
    refine st_icmp_ge (t := 27) h dX10_dues_9 (by decide) (fun q1 => ?_) (fun q1 => ?_)
    · have hF := pI q1 hF
      refine st_iload_2 h dX10_dues_27 ?_
      cases hF
      exact st_iret h hr dX10_dues_28
    · have hF := qI q1 hF
      refine st_iload_2 h dX10_dues_12 ?_
      refine st_aload_0 h dX10_dues_13 ?_
      refine st_aload_1 h dX10_dues_14 ?_
      refine st_iload_3 h dX10_dues_15 ?_
      obtain ⟨g2, hF⟩ := gI hF
      obtain ⟨x1, hx1, hF⟩ := bI hF
      refine st_cVi (vs := [.ref a1, .int i3]) (st := [.int i2]) h (w_X10_duesOf hx1) mi_X10_duesOf mv_X10_duesOf ml_X10_59 dX10_dues_16 (shC_e g2) rfl ⟨Nat.le_of_ble_eq_true rfl, Nat.le_of_ble_eq_true rfl⟩ (Nat.le_of_ble_eq_true rfl) rfl ?_
      refine st_iadd h dX10_dues_19 ?_
      refine st_istore_2 h dX10_dues_20 ?_
      refine st_iinc_3 (y := i3 + 1) h dX10_dues_21 (ii_1 _) ?_
      refine st_goto (t := 4) h dX10_dues_24 (by decide) ?_
      exact st_sub (ls_s (ls_s (ls_s (ls_s ls_e)))) (ih σ a0 a1 (i2 + x1) (i3 + 1) z hF)
set_option maxRecDepth 100000 in
set_option maxHeartbeats 4000000 in
theorem w_X10_dues {l : Launch} {G : Gv} {σ : Sto} {a0 : Nat} {a1 : Nat} {z : Int32} (hF : F_X10_dues σ a0 a1 = some z) : Con l yX10_dues cX10_dues 4 (some .int) 3 G shC νC [.ref a0, .ref a1] (ovC σ) (some (.int z)) (ovC σ) := by
  rw [F_X10_dues] at hF
  refine Con_enter (own := RX10) 2 (lv := [some (.ref a0), some (.ref a1), none, none]) mi_X10_dues.2.2.2 rfl (Nat.le_of_ble_eq_true rfl) rfl (fun h hr hin => ?_)
  refine st_ic_0 h dX10_dues_0 ?_
  refine st_istore_2 h dX10_dues_1 ?_
  refine st_ic_0 h dX10_dues_2 ?_
  refine st_istore_3 h dX10_dues_3 ?_
  exact st_sub (ls_s (ls_s (ls_s (ls_s ls_e)))) (w_X10_dues_4 h hr FU σ a0 a1 0 0 z hF)
set_option maxRecDepth 100000 in
set_option maxHeartbeats 4000000 in
theorem w_X10_allowedWith {l : Launch} {G : Gv} {σ : Sto} {a0 : Nat} {a1 : Nat} {i2 : Int32} {z : Int32} (hF : F_X10_allowedWith σ a0 a1 i2 = some z) : Con l yX10_allowedWith cX10_allowedWith 4 (some .int) 2 G shC νC [.ref a0, .ref a1, .int i2] (ovC σ) (some (.int z)) (ovC σ) := by
  rw [F_X10_allowedWith] at hF
  refine Con_enter (own := RX10) 1 (lv := [some (.ref a0), some (.ref a1), some (.int i2), none]) mi_X10_allowedWith.2.2.2 rfl (Nat.le_of_ble_eq_true rfl) rfl (fun h hr hin => ?_)
  refine st_aload_1 h dX10_allowedWith_0 ?_
  refine st_aload_0 h dX10_allowedWith_1 ?_
  obtain ⟨g1, hF⟩ := gI hF
  refine gX10_2 h fl_X10_9 dX10_allowedWith_2 g1 ?_
  refine st_aload_0 h dX10_allowedWith_5 ?_
  refine gX10_2 h fl_X10_9 dX10_allowedWith_6 g1 ?_
  obtain ⟨g2, hF⟩ := gI hF
  obtain ⟨x1, hx1, hF⟩ := bI hF
  refine st_cVi (vs := [.ref (a0 + 1), .ref (a0 + 1)]) (st := []) h (w_X9_costing hx1) mi_X9_costing mv_X9_costing ml_X10_63 dX10_allowedWith_9 (shC_e g2) rfl ⟨Nat.le_of_ble_eq_true rfl, Nat.le_of_ble_eq_true rfl⟩ (Nat.le_of_ble_eq_true rfl) rfl ?_
  refine st_istore_3 h dX10_allowedWith_12 ?_
  refine st_ic_0 h dX10_allowedWith_13 ?_
  refine st_aload_0 h dX10_allowedWith_14 ?_
  obtain ⟨x2, hx2, hF⟩ := bI hF
  refine st_cVi (vs := []) (st := [.int 0]) h (w_X10_rate hx2) mi_X10_rate mv_X10_rate ml_X10_66 dX10_allowedWith_15 (shC_e g1) rfl ⟨Nat.le_of_ble_eq_true rfl, Nat.le_of_ble_eq_true rfl⟩ (Nat.le_of_ble_eq_true rfl) rfl ?_
  refine st_iload_3 h dX10_allowedWith_18 ?_
  refine st_imul h dX10_allowedWith_19 ?_
  refine st_bipush (v := 100) h dX10_allowedWith_20 (by decide) ?_
  refine st_idiv h (by decide) dX10_allowedWith_22 ?_
  refine st_aload_0 h dX10_allowedWith_23 ?_
  refine gX10_1 h fl_X10_28 dX10_allowedWith_24 g1 ?_
  refine st_iadd h dX10_allowedWith_27 ?_
  refine st_iload_2 h dX10_allowedWith_28 ?_
  refine st_isub h dX10_allowedWith_29 ?_
  refine st_max h ml_X10_51 mt_max.1 mt_max.2.1 mt_max.2.2 dX10_allowedWith_30 ⟨Nat.le_of_ble_eq_true rfl, Nat.le_of_ble_eq_true rfl⟩ (Nat.le_of_ble_eq_true rfl) ⟨Nat.zero_le _, Nat.zero_le _⟩ ?_
  cases hF
  exact st_iret h hr dX10_allowedWith_33
set_option maxRecDepth 100000 in
set_option maxHeartbeats 4000000 in
theorem w_X10_allowed {l : Launch} {G : Gv} {σ : Sto} {a0 : Nat} {a1 : Nat} {z : Int32} (hF : F_X10_allowed σ a0 a1 = some z) : Con l yX10_allowed cX10_allowed 2 (some .int) 4 G shC νC [.ref a0, .ref a1] (ovC σ) (some (.int z)) (ovC σ) := by
  rw [F_X10_allowed] at hF
  refine Con_enter (own := RX10) 0 (lv := [some (.ref a0), some (.ref a1)]) mi_X10_allowed.2.2.2 rfl (Nat.le_of_ble_eq_true rfl) rfl (fun h hr hin => ?_)
  refine st_aload_0 h dX10_allowed_0 ?_
  refine st_aload_1 h dX10_allowed_1 ?_
  refine st_aload_0 h dX10_allowed_2 ?_
  refine st_aload_1 h dX10_allowed_3 ?_
  obtain ⟨g1, hF⟩ := gI hF
  obtain ⟨x1, hx1, hF⟩ := bI hF
  refine st_cVi (vs := [.ref a1]) (st := [.ref a1, .ref a0]) h (w_X10_dues hx1) mi_X10_dues mv_X10_dues ml_X10_70 dX10_allowed_4 (shC_e g1) rfl ⟨Nat.le_of_ble_eq_true rfl, Nat.le_of_ble_eq_true rfl⟩ (Nat.le_of_ble_eq_true rfl) rfl ?_
  obtain ⟨x2, hx2, hF⟩ := bI hF
  refine st_cVi (vs := [.ref a1, .int x1]) (st := []) h (w_X10_allowedWith hx2) mi_X10_allowedWith mv_X10_allowedWith ml_X10_74 dX10_allowed_7 (shC_e g1) rfl ⟨Nat.le_of_ble_eq_true rfl, Nat.le_of_ble_eq_true rfl⟩ (Nat.le_of_ble_eq_true rfl) rfl ?_
  cases hF
  exact st_iret h hr dX10_allowed_10
set_option maxRecDepth 100000 in
set_option maxHeartbeats 4000000 in
theorem w_X10_spent {l : Launch} {G : Gv} {σ : Sto} {a0 : Nat} {a1 : Nat} {z : Int32} (hF : F_X10_spent σ a0 a1 = some z) : Con l yX10_spent cX10_spent 2 (some .int) 2 G shC νC [.ref a0, .ref a1] (ovC σ) (some (.int z)) (ovC σ) := by
  rw [F_X10_spent] at hF
  refine Con_enter (own := RX10) 0 (lv := [some (.ref a0), some (.ref a1)]) mi_X10_spent.2.2.2 rfl (Nat.le_of_ble_eq_true rfl) rfl (fun h hr hin => ?_)
  refine st_aload_1 h dX10_spent_0 ?_
  refine st_aload_0 h dX10_spent_1 ?_
  obtain ⟨g1, hF⟩ := gI hF
  refine gX10_3 h fl_X10_15 dX10_spent_2 g1 ?_
  refine st_aload_0 h dX10_spent_5 ?_
  refine gX10_2 h fl_X10_9 dX10_spent_6 g1 ?_
  obtain ⟨g2, hF⟩ := gI hF
  obtain ⟨x1, hx1, hF⟩ := bI hF
  refine st_cVi (vs := [.ref (a0 + 2), .ref (a0 + 1)]) (st := []) h (w_X9_costing hx1) mi_X9_costing mv_X9_costing ml_X10_63 dX10_spent_9 (shC_e g2) rfl ⟨Nat.le_of_ble_eq_true rfl, Nat.le_of_ble_eq_true rfl⟩ (Nat.le_of_ble_eq_true rfl) rfl ?_
  cases hF
  exact st_iret h hr dX10_spent_12
set_option maxRecDepth 100000 in
set_option maxHeartbeats 4000000 in
theorem w_X10_left {l : Launch} {G : Gv} {σ : Sto} {a0 : Nat} {a1 : Nat} {z : Int32} (hF : F_X10_left σ a0 a1 = some z) : Con l yX10_left cX10_left 2 (some .int) 5 G shC νC [.ref a0, .ref a1] (ovC σ) (some (.int z)) (ovC σ) := by
  rw [F_X10_left] at hF
  refine Con_enter (own := RX10) 0 (lv := [some (.ref a0), some (.ref a1)]) mi_X10_left.2.2.2 rfl (Nat.le_of_ble_eq_true rfl) rfl (fun h hr hin => ?_)
  refine st_aload_0 h dX10_left_0 ?_
  refine st_aload_1 h dX10_left_1 ?_
  obtain ⟨g1, hF⟩ := gI hF
  obtain ⟨x1, hx1, hF⟩ := bI hF
  refine st_cVi (vs := [.ref a1]) (st := []) h (w_X10_allowed hx1) mi_X10_allowed mv_X10_allowed ml_X10_83 dX10_left_2 (shC_e g1) rfl ⟨Nat.le_of_ble_eq_true rfl, Nat.le_of_ble_eq_true rfl⟩ (Nat.le_of_ble_eq_true rfl) rfl ?_
  refine st_aload_0 h dX10_left_5 ?_
  refine st_aload_1 h dX10_left_6 ?_
  obtain ⟨x2, hx2, hF⟩ := bI hF
  refine st_cVi (vs := [.ref a1]) (st := [.int x1]) h (w_X10_spent hx2) mi_X10_spent mv_X10_spent ml_X10_77 dX10_left_7 (shC_e g1) rfl ⟨Nat.le_of_ble_eq_true rfl, Nat.le_of_ble_eq_true rfl⟩ (Nat.le_of_ble_eq_true rfl) rfl ?_
  refine st_isub h dX10_left_10 ?_
  cases hF
  exact st_iret h hr dX10_left_11
set_option maxRecDepth 100000 in
set_option maxHeartbeats 4000000 in
theorem w_X10_isKept {l : Launch} {G : Gv} {σ : Sto} {a0 : Nat} {a1 : Nat} {z : Int32} (hF : F_X10_isKept σ a0 a1 = some z) : Con l yX10_isKept cX10_isKept 2 (some .boolean) 6 G shC νC [.ref a0, .ref a1] (ovC σ) (some (.int z)) (ovC σ) := by
  rw [F_X10_isKept] at hF
  refine Con_enter (own := RX10) 0 (lv := [some (.ref a0), some (.ref a1)]) mi_X10_isKept.2.2.2 rfl (Nat.le_of_ble_eq_true rfl) rfl (fun h hr hin => ?_)
  refine st_aload_0 h dX10_isKept_0 ?_
  refine st_aload_1 h dX10_isKept_1 ?_
  obtain ⟨g1, hF⟩ := gI hF
  obtain ⟨x1, hx1, hF⟩ := bI hF
  refine st_cVi (vs := [.ref a1]) (st := []) h (w_X10_left hx1) mi_X10_left mv_X10_left ml_X10_86 dX10_isKept_2 (shC_e g1) rfl ⟨Nat.le_of_ble_eq_true rfl, Nat.le_of_ble_eq_true rfl⟩ (Nat.le_of_ble_eq_true rfl) rfl ?_
  refine st_if_lt (t := 12) h dX10_isKept_5 (by decide) (fun q1 => ?_) (fun q1 => ?_)
  · have hF := pI q1 hF
    refine st_ic_0 h dX10_isKept_12 ?_
    cases hF
    exact st_zret h hr (Or.inl rfl) dX10_isKept_13
  · have hF := qI q1 hF
    refine st_ic_1 h dX10_isKept_8 ?_
    refine st_goto (t := 13) h dX10_isKept_9 (by decide) ?_
    cases hF
    exact st_zret h hr (Or.inr rfl) dX10_isKept_13
set_option maxRecDepth 100000 in
set_option maxHeartbeats 4000000 in
theorem w_X9_off_4 {p : Program} {l : Launch} {e : Env} {s : State} {m : MethodId} {args : Array Value} {below : List Frame} {meth : Method} {c : Code} {G : Gv} (h : Cx p s m args meth c G cX9_off 4 RX9) (hr : meth.sig.returnType = (some .int)) : ∀ (n : Nat) (σ : Sto) (a0 : Nat) (a1 : Nat) (i2 : Int32) (i3 : Int32) (z : Int32), F_X9_off_4 n σ a0 a1 i2 i3 = some z → AW p l e (rmD 2 0 0) s m args below meth c (MQ below (QcR G shC νC (some (.int z)) (ovC σ)) args s 0 0 (gA G)) 0 0 G 4 4 [some (.ref a0), some (.ref a1), some (.int i2), some (.int i3)] [] shC νC (ovC σ) := by
  intro n
  induction n with
  | zero => intro σ a0 a1 i2 i3 z hF; cases hF
  | succ n ih =>
    intro σ a0 a1 i2 i3 z hF
    rw [F_X9_off_4] at hF
    refine st_iload_3 h dX9_off_4 ?_
    refine st_aload_0 h dX9_off_5 ?_
    obtain ⟨g1, hF⟩ := gI hF
    refine gX9_0 h fl_X9_34 dX9_off_6 g1 ?_
    refine st_icmp_ge (t := 34) h dX9_off_9 (by decide) (fun q1 => ?_) (fun q1 => ?_)
    · have hF := pI q1 hF
      refine st_iload_2 h dX9_off_34 ?_
      cases hF
      exact st_iret h hr dX9_off_35
    · have hF := qI q1 hF
      refine st_iload_2 h dX9_off_12 ?_
      refine st_aload_1 h dX9_off_13 ?_
      refine st_iload_3 h dX9_off_14 ?_
      obtain ⟨g2, hF⟩ := gI hF
      obtain ⟨g3, hF⟩ := gI hF
      refine iaC h dX9_off_15 g2 g3 ?_
      refine st_aload_0 h dX9_off_16 ?_
      refine st_ic_3 h dX9_off_17 ?_
      refine st_iload_3 h dX9_off_18 ?_
      obtain ⟨x1, hx1, hF⟩ := bI hF
      refine st_cVi (vs := [.int 3, .int i3]) (st := [.int (σ.1 a1 (ix i3)), .int i2]) h (w_X9_valueOf hx1) mi_X9_valueOf mv_X9_valueOf ml_X9_47 dX9_off_19 (shC_e g1) rfl ⟨Nat.le_of_ble_eq_true rfl, Nat.le_of_ble_eq_true rfl⟩ (Nat.le_of_ble_eq_true rfl) rfl ?_
      refine st_isub h dX9_off_22 ?_
      refine st_abs h ml_X9_56 mt_abs.1 mt_abs.2.1 mt_abs.2.2 dX9_off_23 ⟨Nat.le_of_ble_eq_true rfl, Nat.le_of_ble_eq_true rfl⟩ (Nat.le_of_ble_eq_true rfl) ⟨Nat.zero_le _, Nat.zero_le _⟩ ?_
      refine st_iadd h dX9_off_26 ?_
      obtain ⟨v1, hv1, hF⟩ := swI hF
      refine st_nmi hv1 ?_
      refine st_istore_2 h dX9_off_27 ?_
      refine st_iinc_3 (y := i3 + 1) h dX9_off_28 (ii_1 _) ?_
      refine st_goto (t := 4) h dX9_off_31 (by decide) ?_
      exact st_sub (ls_s (ls_s (ls_s (ls_s ls_e)))) (ih σ a0 a1 v1 (i3 + 1) z hF)
set_option maxRecDepth 100000 in
set_option maxHeartbeats 4000000 in
theorem w_X9_off {l : Launch} {G : Gv} {σ : Sto} {a0 : Nat} {a1 : Nat} {z : Int32} (hF : F_X9_off σ a0 a1 = some z) : Con l yX9_off cX9_off 4 (some .int) 2 G shC νC [.ref a0, .ref a1] (ovC σ) (some (.int z)) (ovC σ) := by
  rw [F_X9_off] at hF
  refine Con_enter (own := RX9) 2 (lv := [some (.ref a0), some (.ref a1), none, none]) mi_X9_off.2.2.2 rfl (Nat.le_of_ble_eq_true rfl) rfl (fun h hr hin => ?_)
  refine st_ic_0 h dX9_off_0 ?_
  refine st_istore_2 h dX9_off_1 ?_
  refine st_ic_0 h dX9_off_2 ?_
  refine st_istore_3 h dX9_off_3 ?_
  exact st_sub (ls_s (ls_s (ls_s (ls_s ls_e)))) (w_X9_off_4 h hr FU σ a0 a1 0 0 z hF)
set_option maxRecDepth 100000 in
set_option maxHeartbeats 4000000 in
theorem w_X11_about_222 {p : Program} {l : Launch} {e : Env} {s : State} {m : MethodId} {args : Array Value} {below : List Frame} {meth : Method} {c : Code} {G : Gv} (h : Cx p s m args meth c G cX11_about 2 RX11) (hr : meth.sig.returnType = (some .int)) : ∀ (σ : Sto) (e1 : Int32) (z : (Int32 × Sto)), F_X11_about_222 σ e1 = some z → AW p l e (rmD 7 0 0) s m args below meth c (MQ below (QcR G shC νC (some (.int z.1)) (ovC z.2)) args s 0 0 (gA G)) 0 0 G 2 222 [none, none] [.int e1, .ref 0] shC νC (ovC σ) := by
  intro σ e1 z hF
  rw [F_X11_about_222] at hF
  obtain ⟨x1, hx1, hF⟩ := bI hF
  refine st_cVi (vs := [.int e1]) (st := []) h (w_X11_answer hx1) mi_X11_answer mv_X11_answer ml_X11_125 dX11_about_222 kC_0 rfl ⟨Nat.le_of_ble_eq_true rfl, Nat.le_of_ble_eq_true rfl⟩ (Nat.le_of_ble_eq_true rfl) rfl ?_
  cases hF
  exact st_iret h hr dX11_about_225
set_option maxRecDepth 100000 in
set_option maxHeartbeats 4000000 in
theorem w_X11_about {l : Launch} {G : Gv} {σ : Sto} {i1 : Int32} {z : (Int32 × Sto)} (hF : F_X11_about σ i1 = some z) : Con l yX11_about cX11_about 2 (some .int) 7 G shC νC [.ref 0, .int i1] (ovC σ) (some (.int z.1)) (ovC z.2) := by
  rw [F_X11_about] at hF
  refine Con_enter (own := RX11) 0 (lv := [some (.ref 0), some (.int i1)]) mi_X11_about.2.2.2 rfl (Nat.le_of_ble_eq_true rfl) rfl (fun h hr hin => ?_)
  refine st_aload_0 h dX11_about_0 ?_
  refine gX11_13 h fl_X11_131 dX11_about_1 (congrArg Prod.fst kC_0) ?_
  refine st_if_ne (t := 13) h dX11_about_4 (by decide) (fun q1 => ?_) (fun q1 => ?_)
  · have hF := qI q1 hF
    refine st_iload_1 h dX11_about_13 ?_
    by_cases q2 : i1 = 0
    · have hF := pI q2 hF
      refine st_tableIn (t := 76) h dX11_about_14 (by rw [q2]; decide) (by rw [q2]; decide) (by rw [q2]; rfl) (by decide) ?_
      refine st_aload_0 h dX11_about_76 ?_
      refine st_aload_0 h dX11_about_77 ?_
      obtain ⟨x1, hx1, hF⟩ := bI hF
      refine gX11_11 h fl_X11_83 dX11_about_78 hx1 ?_
      obtain ⟨g1, hF⟩ := gI hF
      refine gX9_0 h fl_X11_122 dX11_about_81 g1 ?_
      obtain ⟨x2, hx2, hF⟩ := bI hF
      refine st_cVi (vs := [.int (σ.1 x1 0)]) (st := []) h (w_X11_answer hx2) mi_X11_answer mv_X11_answer ml_X11_125 dX11_about_84 kC_0 rfl ⟨Nat.le_of_ble_eq_true rfl, Nat.le_of_ble_eq_true rfl⟩ (Nat.le_of_ble_eq_true rfl) rfl ?_
      cases hF
      exact st_iret h hr dX11_about_87
    have hF := qI q2 hF
    by_cases q3 : i1 = 1
    · have hF := pI q3 hF
      refine st_tableIn (t := 88) h dX11_about_14 (by rw [q3]; decide) (by rw [q3]; decide) (by rw [q3]; rfl) (by decide) ?_
      refine st_aload_0 h dX11_about_88 ?_
      refine st_aload_0 h dX11_about_89 ?_
      refine gX11_2 h fl_X11_23 dX11_about_90 (congrArg Prod.fst kC_0) ?_
      refine gX10_0 h fl_X11_135 dX11_about_93 (congrArg Prod.fst kC_3) ?_
      obtain ⟨x3, hx3, hF⟩ := bI hF
      refine st_cVi (vs := [.int (σ.1 3 0)]) (st := []) h (w_X11_answer hx3) mi_X11_answer mv_X11_answer ml_X11_125 dX11_about_96 kC_0 rfl ⟨Nat.le_of_ble_eq_true rfl, Nat.le_of_ble_eq_true rfl⟩ (Nat.le_of_ble_eq_true rfl) rfl ?_
      cases hF
      exact st_iret h hr dX11_about_99
    have hF := qI q3 hF
    by_cases q4 : i1 = 2
    · have hF := pI q4 hF
      refine st_tableIn (t := 100) h dX11_about_14 (by rw [q4]; decide) (by rw [q4]; decide) (by rw [q4]; rfl) (by decide) ?_
      refine st_aload_0 h dX11_about_100 ?_
      refine st_aload_0 h dX11_about_101 ?_
      refine gX11_2 h fl_X11_23 dX11_about_102 (congrArg Prod.fst kC_0) ?_
      obtain ⟨x4, hx4, hF⟩ := bI hF
      refine st_cVi (vs := []) (st := [.ref 0]) h (w_X10_rate hx4) mi_X10_rate mv_X10_rate ml_X11_138 dX11_about_105 kC_3 rfl ⟨Nat.le_of_ble_eq_true rfl, Nat.le_of_ble_eq_true rfl⟩ (Nat.le_of_ble_eq_true rfl) rfl ?_
      obtain ⟨x5, hx5, hF⟩ := bI hF
      refine st_cVi (vs := [.int x4]) (st := []) h (w_X11_answer hx5) mi_X11_answer mv_X11_answer ml_X11_125 dX11_about_108 kC_0 rfl ⟨Nat.le_of_ble_eq_true rfl, Nat.le_of_ble_eq_true rfl⟩ (Nat.le_of_ble_eq_true rfl) rfl ?_
      cases hF
      exact st_iret h hr dX11_about_111
    have hF := qI q4 hF
    by_cases q5 : i1 = 3
    · have hF := pI q5 hF
      refine st_tableIn (t := 112) h dX11_about_14 (by rw [q5]; decide) (by rw [q5]; decide) (by rw [q5]; rfl) (by decide) ?_
      refine st_aload_0 h dX11_about_112 ?_
      refine st_aload_0 h dX11_about_113 ?_
      refine gX11_2 h fl_X11_23 dX11_about_114 (congrArg Prod.fst kC_0) ?_
      refine st_aload_0 h dX11_about_117 ?_
      obtain ⟨x6, hx6, hF⟩ := bI hF
      refine gX11_11 h fl_X11_83 dX11_about_118 hx6 ?_
      obtain ⟨x7, hx7, hF⟩ := bI hF
      refine st_cVi (vs := [.ref x6]) (st := [.ref 0]) h (w_X10_weights hx7) mi_X10_weights mv_X10_weights ml_X11_142 dX11_about_121 kC_3 rfl ⟨Nat.le_of_ble_eq_true rfl, Nat.le_of_ble_eq_true rfl⟩ (Nat.le_of_ble_eq_true rfl) rfl ?_
      obtain ⟨x8, hx8, hF⟩ := bI hF
      refine st_cVi (vs := [.int x7]) (st := []) h (w_X11_answer hx8) mi_X11_answer mv_X11_answer ml_X11_125 dX11_about_124 kC_0 rfl ⟨Nat.le_of_ble_eq_true rfl, Nat.le_of_ble_eq_true rfl⟩ (Nat.le_of_ble_eq_true rfl) rfl ?_
      cases hF
      exact st_iret h hr dX11_about_127
    have hF := qI q5 hF
    by_cases q6 : i1 = 4
    · have hF := pI q6 hF
      refine st_tableIn (t := 128) h dX11_about_14 (by rw [q6]; decide) (by rw [q6]; decide) (by rw [q6]; rfl) (by decide) ?_
      refine st_aload_0 h dX11_about_128 ?_
      refine st_aload_0 h dX11_about_129 ?_
      obtain ⟨x9, hx9, hF⟩ := bI hF
      refine gX11_11 h fl_X11_83 dX11_about_130 hx9 ?_
      refine st_aload_0 h dX11_about_133 ?_
      refine gX11_2 h fl_X11_23 dX11_about_134 (congrArg Prod.fst kC_0) ?_
      refine gX10_2 h fl_X11_146 dX11_about_137 (congrArg Prod.fst kC_3) ?_
      refine st_aload_0 h dX11_about_140 ?_
      refine gX11_2 h fl_X11_23 dX11_about_141 (congrArg Prod.fst kC_0) ?_
      refine gX10_2 h fl_X11_146 dX11_about_144 (congrArg Prod.fst kC_3) ?_
      obtain ⟨g2, hF⟩ := gI hF
      obtain ⟨x10, hx10, hF⟩ := bI hF
      refine st_cVi (vs := [.ref (3 + 1), .ref (3 + 1)]) (st := [.ref 0]) h (w_X9_costing hx10) mi_X9_costing mv_X9_costing ml_X11_149 dX11_about_147 (shC_e g2) rfl ⟨Nat.le_of_ble_eq_true rfl, Nat.le_of_ble_eq_true rfl⟩ (Nat.le_of_ble_eq_true rfl) rfl ?_
      obtain ⟨x11, hx11, hF⟩ := bI hF
      refine st_cVi (vs := [.int x10]) (st := []) h (w_X11_answer hx11) mi_X11_answer mv_X11_answer ml_X11_125 dX11_about_150 kC_0 rfl ⟨Nat.le_of_ble_eq_true rfl, Nat.le_of_ble_eq_true rfl⟩ (Nat.le_of_ble_eq_true rfl) rfl ?_
      cases hF
      exact st_iret h hr dX11_about_153
    have hF := qI q6 hF
    by_cases q7 : i1 = 5
    · have hF := pI q7 hF
      refine st_tableIn (t := 154) h dX11_about_14 (by rw [q7]; decide) (by rw [q7]; decide) (by rw [q7]; rfl) (by decide) ?_
      refine st_aload_0 h dX11_about_154 ?_
      refine st_aload_0 h dX11_about_155 ?_
      refine gX11_2 h fl_X11_23 dX11_about_156 (congrArg Prod.fst kC_0) ?_
      refine st_aload_0 h dX11_about_159 ?_
      obtain ⟨x12, hx12, hF⟩ := bI hF
      refine gX11_11 h fl_X11_83 dX11_about_160 hx12 ?_
      obtain ⟨x13, hx13, hF⟩ := bI hF
      refine st_cVi (vs := [.ref x12]) (st := [.ref 0]) h (w_X10_dues hx13) mi_X10_dues mv_X10_dues ml_X11_153 dX11_about_163 kC_3 rfl ⟨Nat.le_of_ble_eq_true rfl, Nat.le_of_ble_eq_true rfl⟩ (Nat.le_of_ble_eq_true rfl) rfl ?_
      obtain ⟨x14, hx14, hF⟩ := bI hF
      refine st_cVi (vs := [.int x13]) (st := []) h (w_X11_answer hx14) mi_X11_answer mv_X11_answer ml_X11_125 dX11_about_166 kC_0 rfl ⟨Nat.le_of_ble_eq_true rfl, Nat.le_of_ble_eq_true rfl⟩ (Nat.le_of_ble_eq_true rfl) rfl ?_
      cases hF
      exact st_iret h hr dX11_about_169
    have hF := qI q7 hF
    by_cases q8 : i1 = 6
    · have hF := pI q8 hF
      refine st_tableIn (t := 170) h dX11_about_14 (by rw [q8]; decide) (by rw [q8]; decide) (by rw [q8]; rfl) (by decide) ?_
      refine st_aload_0 h dX11_about_170 ?_
      refine st_aload_0 h dX11_about_171 ?_
      refine gX11_2 h fl_X11_23 dX11_about_172 (congrArg Prod.fst kC_0) ?_
      refine st_aload_0 h dX11_about_175 ?_
      obtain ⟨x15, hx15, hF⟩ := bI hF
      refine gX11_11 h fl_X11_83 dX11_about_176 hx15 ?_
      obtain ⟨x16, hx16, hF⟩ := bI hF
      refine st_cVi (vs := [.ref x15]) (st := [.ref 0]) h (w_X10_allowed hx16) mi_X10_allowed mv_X10_allowed ml_X11_156 dX11_about_179 kC_3 rfl ⟨Nat.le_of_ble_eq_true rfl, Nat.le_of_ble_eq_true rfl⟩ (Nat.le_of_ble_eq_true rfl) rfl ?_
      obtain ⟨x17, hx17, hF⟩ := bI hF
      refine st_cVi (vs := [.int x16]) (st := []) h (w_X11_answer hx17) mi_X11_answer mv_X11_answer ml_X11_125 dX11_about_182 kC_0 rfl ⟨Nat.le_of_ble_eq_true rfl, Nat.le_of_ble_eq_true rfl⟩ (Nat.le_of_ble_eq_true rfl) rfl ?_
      cases hF
      exact st_iret h hr dX11_about_185
    have hF := qI q8 hF
    by_cases q9 : i1 = 7
    · have hF := pI q9 hF
      refine st_tableIn (t := 186) h dX11_about_14 (by rw [q9]; decide) (by rw [q9]; decide) (by rw [q9]; rfl) (by decide) ?_
      refine st_aload_0 h dX11_about_186 ?_
      refine st_aload_0 h dX11_about_187 ?_
      refine gX11_2 h fl_X11_23 dX11_about_188 (congrArg Prod.fst kC_0) ?_
      refine st_aload_0 h dX11_about_191 ?_
      obtain ⟨x18, hx18, hF⟩ := bI hF
      refine gX11_11 h fl_X11_83 dX11_about_192 hx18 ?_
      obtain ⟨x19, hx19, hF⟩ := bI hF
      refine st_cVi (vs := [.ref x18]) (st := [.ref 0]) h (w_X10_spent hx19) mi_X10_spent mv_X10_spent ml_X11_159 dX11_about_195 kC_3 rfl ⟨Nat.le_of_ble_eq_true rfl, Nat.le_of_ble_eq_true rfl⟩ (Nat.le_of_ble_eq_true rfl) rfl ?_
      obtain ⟨x20, hx20, hF⟩ := bI hF
      refine st_cVi (vs := [.int x19]) (st := []) h (w_X11_answer hx20) mi_X11_answer mv_X11_answer ml_X11_125 dX11_about_198 kC_0 rfl ⟨Nat.le_of_ble_eq_true rfl, Nat.le_of_ble_eq_true rfl⟩ (Nat.le_of_ble_eq_true rfl) rfl ?_
      cases hF
      exact st_iret h hr dX11_about_201
    have hF := qI q9 hF
    by_cases q10 : i1 = 8
    · have hF := pI q10 hF
      refine st_tableIn (t := 202) h dX11_about_14 (by rw [q10]; decide) (by rw [q10]; decide) (by rw [q10]; rfl) (by decide) ?_
      refine st_aload_0 h dX11_about_202 ?_
      refine st_aload_0 h dX11_about_203 ?_
      refine gX11_2 h fl_X11_23 dX11_about_204 (congrArg Prod.fst kC_0) ?_
      refine st_aload_0 h dX11_about_207 ?_
      obtain ⟨x21, hx21, hF⟩ := bI hF
      refine gX11_11 h fl_X11_83 dX11_about_208 hx21 ?_
      obtain ⟨x22, hx22, hF⟩ := bI hF
      refine st_cVi (vs := [.ref x21]) (st := [.ref 0]) h (w_X10_isKept hx22) mi_X10_isKept mv_X10_isKept ml_X11_162 dX11_about_211 kC_3 rfl ⟨Nat.le_of_ble_eq_true rfl, Nat.le_of_ble_eq_true rfl⟩ (Nat.le_of_ble_eq_true rfl) rfl ?_
      refine st_if_eq (t := 221) h dX11_about_214 (by decide) (fun q11 => ?_) (fun q11 => ?_)
      · have hF := pI q11 hF
        refine st_ic_0 h dX11_about_221 ?_
        exact st_sub (ls_n (ls_n ls_e)) (w_X11_about_222 h hr σ 0 z hF)
      · have hF := qI q11 hF
        refine st_ic_1 h dX11_about_217 ?_
        refine st_goto (t := 222) h dX11_about_218 (by decide) ?_
        exact st_sub (ls_n (ls_n ls_e)) (w_X11_about_222 h hr σ 1 z hF)
    have hF := qI q10 hF
    by_cases q12 : i1 = 9
    · have hF := pI q12 hF
      refine st_tableIn (t := 226) h dX11_about_14 (by rw [q12]; decide) (by rw [q12]; decide) (by rw [q12]; rfl) (by decide) ?_
      refine st_aload_0 h dX11_about_226 ?_
      refine st_aload_0 h dX11_about_227 ?_
      refine gX11_4 h fl_X11_37 dX11_about_228 (congrArg Prod.fst kC_0) ?_
      refine gX5_2 h fl_X11_166 dX11_about_231 (congrArg Prod.fst kC_10) ?_
      obtain ⟨x23, hx23, hF⟩ := bI hF
      refine st_cVi (vs := [.int (σ.1 10 2)]) (st := []) h (w_X11_answer hx23) mi_X11_answer mv_X11_answer ml_X11_125 dX11_about_234 kC_0 rfl ⟨Nat.le_of_ble_eq_true rfl, Nat.le_of_ble_eq_true rfl⟩ (Nat.le_of_ble_eq_true rfl) rfl ?_
      cases hF
      exact st_iret h hr dX11_about_237
    have hF := qI q12 hF
    by_cases q13 : i1 = 10
    · have hF := pI q13 hF
      refine st_tableIn (t := 238) h dX11_about_14 (by rw [q13]; decide) (by rw [q13]; decide) (by rw [q13]; rfl) (by decide) ?_
      refine st_aload_0 h dX11_about_238 ?_
      refine st_aload_0 h dX11_about_239 ?_
      obtain ⟨x24, hx24, hF⟩ := bI hF
      refine gX11_11 h fl_X11_83 dX11_about_240 hx24 ?_
      refine st_aload_0 h dX11_about_243 ?_
      refine gX11_2 h fl_X11_23 dX11_about_244 (congrArg Prod.fst kC_0) ?_
      refine gX10_2 h fl_X11_146 dX11_about_247 (congrArg Prod.fst kC_3) ?_
      obtain ⟨g3, hF⟩ := gI hF
      obtain ⟨x25, hx25, hF⟩ := bI hF
      refine st_cVi (vs := [.ref (3 + 1)]) (st := [.ref 0]) h (w_X9_off hx25) mi_X9_off mv_X9_off ml_X11_169 dX11_about_250 (shC_e g3) rfl ⟨Nat.le_of_ble_eq_true rfl, Nat.le_of_ble_eq_true rfl⟩ (Nat.le_of_ble_eq_true rfl) rfl ?_
      obtain ⟨x26, hx26, hF⟩ := bI hF
      refine st_cVi (vs := [.int x25]) (st := []) h (w_X11_answer hx26) mi_X11_answer mv_X11_answer ml_X11_125 dX11_about_253 kC_0 rfl ⟨Nat.le_of_ble_eq_true rfl, Nat.le_of_ble_eq_true rfl⟩ (Nat.le_of_ble_eq_true rfl) rfl ?_
      cases hF
      exact st_iret h hr dX11_about_256
    have hF := qI q13 hF
    by_cases q14 : i1 = 11
    · have hF := pI q14 hF
      refine st_tableIn (t := 257) h dX11_about_14 (by rw [q14]; decide) (by rw [q14]; decide) (by rw [q14]; rfl) (by decide) ?_
      refine st_aload_0 h dX11_about_257 ?_
      refine st_aload_0 h dX11_about_258 ?_
      obtain ⟨x27, hx27, hF⟩ := bI hF
      refine gX11_11 h fl_X11_83 dX11_about_259 hx27 ?_
      refine st_aload_0 h dX11_about_262 ?_
      refine gX11_2 h fl_X11_23 dX11_about_263 (congrArg Prod.fst kC_0) ?_
      refine gX10_3 h fl_X11_173 dX11_about_266 (congrArg Prod.fst kC_3) ?_
      obtain ⟨g4, hF⟩ := gI hF
      obtain ⟨x28, hx28, hF⟩ := bI hF
      refine st_cVi (vs := [.ref (3 + 2)]) (st := [.ref 0]) h (w_X9_off hx28) mi_X9_off mv_X9_off ml_X11_169 dX11_about_269 (shC_e g4) rfl ⟨Nat.le_of_ble_eq_true rfl, Nat.le_of_ble_eq_true rfl⟩ (Nat.le_of_ble_eq_true rfl) rfl ?_
      obtain ⟨x29, hx29, hF⟩ := bI hF
      refine st_cVi (vs := [.int x28]) (st := []) h (w_X11_answer hx29) mi_X11_answer mv_X11_answer ml_X11_125 dX11_about_272 kC_0 rfl ⟨Nat.le_of_ble_eq_true rfl, Nat.le_of_ble_eq_true rfl⟩ (Nat.le_of_ble_eq_true rfl) rfl ?_
      cases hF
      exact st_iret h hr dX11_about_275
    have hF := qI q14 hF
    refine st_tableOut (t := 276) h dX11_about_14 (tsw_0_11 q2 q3 q4 q5 q6 q7 q8 q9 q10 q12 q13 q14) (by decide) ?_
    refine st_aload_0 h dX11_about_276 ?_
    refine st_ic_1 h dX11_about_277 ?_
    obtain ⟨x30, hx30, hF⟩ := bI hF
    refine st_cVi (vs := [.int 1]) (st := []) h (w_X11_refuse hx30) mi_X11_refuse mv_X11_refuse ml_X11_99 dX11_about_278 kC_0 rfl ⟨Nat.le_of_ble_eq_true rfl, Nat.le_of_ble_eq_true rfl⟩ (Nat.le_of_ble_eq_true rfl) rfl ?_
    cases hF
    exact st_iret h hr dX11_about_281
  · have hF := pI q1 hF
    refine st_aload_0 h dX11_about_7 ?_
    refine st_ic_1 h dX11_about_8 ?_
    obtain ⟨x31, hx31, hF⟩ := bI hF
    refine st_cVi (vs := [.int 1]) (st := []) h (w_X11_refuse hx31) mi_X11_refuse mv_X11_refuse ml_X11_99 dX11_about_9 kC_0 rfl ⟨Nat.le_of_ble_eq_true rfl, Nat.le_of_ble_eq_true rfl⟩ (Nat.le_of_ble_eq_true rfl) rfl ?_
    cases hF
    exact st_iret h hr dX11_about_12
set_option maxRecDepth 100000 in
set_option maxHeartbeats 4000000 in
theorem w_X11_noService_22 {p : Program} {l : Launch} {e : Env} {s : State} {m : MethodId} {args : Array Value} {below : List Frame} {meth : Method} {c : Code} {G : Gv} (h : Cx p s m args meth c G cX11_noService 2 RX11) (hr : meth.sig.returnType = (some .boolean)) : ∀ (σ : Sto) (z : Int32), F_X11_noService_22 σ  = some z → AW p l e (rmD 1 0 0) s m args below meth c (MQ below (QcR G shC νC (some (.int z)) (ovC σ)) args s 0 0 (gA G)) 0 0 G 2 22 [none, none] [] shC νC (ovC σ) := by
  intro σ z hF
  rw [F_X11_noService_22] at hF
  refine st_ic_1 h dX11_noService_22 ?_
  refine st_goto (t := 27) h dX11_noService_23 (by decide) ?_
  cases hF
  exact st_zret h hr (Or.inr rfl) dX11_noService_27
set_option maxRecDepth 100000 in
set_option maxHeartbeats 4000000 in
theorem w_X11_noService {l : Launch} {G : Gv} {σ : Sto} {i1 : Int32} {z : Int32} (hF : F_X11_noService σ i1 = some z) : Con l yX11_noService cX11_noService 2 (some .boolean) 1 G shC νC [.ref 0, .int i1] (ovC σ) (some (.int z)) (ovC σ) := by
  rw [F_X11_noService] at hF
  refine Con_enter (own := RX11) 0 (lv := [some (.ref 0), some (.int i1)]) mi_X11_noService.2.2.2 rfl (Nat.le_of_ble_eq_true rfl) rfl (fun h hr hin => ?_)
  refine st_aload_0 h dX11_noService_0 ?_
  refine gX11_13 h fl_X11_131 dX11_noService_1 (congrArg Prod.fst kC_0) ?_
  refine st_if_eq (t := 22) h dX11_noService_4 (by decide) (fun q1 => ?_) (fun q1 => ?_)
  · have hF := pI q1 hF
    exact st_sub (ls_n (ls_n ls_e)) (w_X11_noService_22 h hr σ  z hF)
  · have hF := qI q1 hF
    refine st_iload_1 h dX11_noService_7 ?_
    refine st_if_lt (t := 22) h dX11_noService_8 (by decide) (fun q2 => ?_) (fun q2 => ?_)
    · have hF := pI q2 hF
      exact st_sub (ls_n (ls_n ls_e)) (w_X11_noService_22 h hr σ  z hF)
    · have hF := qI q2 hF
      refine st_iload_1 h dX11_noService_11 ?_
      refine st_aload_0 h dX11_noService_12 ?_
      obtain ⟨x1, hx1, hF⟩ := bI hF
      refine gX11_11 h fl_X11_83 dX11_noService_13 hx1 ?_
      obtain ⟨g1, hF⟩ := gI hF
      refine gX9_0 h fl_X11_122 dX11_noService_16 g1 ?_
      refine st_icmp_lt (t := 26) h dX11_noService_19 (by decide) (fun q3 => ?_) (fun q3 => ?_)
      · have hF := pI q3 hF
        refine st_ic_0 h dX11_noService_26 ?_
        cases hF
        exact st_zret h hr (Or.inl rfl) dX11_noService_27
      · have hF := qI q3 hF
        exact st_sub (ls_n (ls_n ls_e)) (w_X11_noService_22 h hr σ  z hF)
set_option maxRecDepth 100000 in
set_option maxHeartbeats 4000000 in
theorem w_X10_weight {l : Launch} {G : Gv} {σ : Sto} {a0 : Nat} {a1 : Nat} {i2 : Int32} {z : Int32} (hF : F_X10_weight σ a0 a1 i2 = some z) : Con l yX10_weight cX10_weight 3 (some .int) 1 G shC νC [.ref a0, .ref a1, .int i2] (ovC σ) (some (.int z)) (ovC σ) := by
  rw [F_X10_weight] at hF
  refine Con_enter (own := RX10) 0 (lv := [some (.ref a0), some (.ref a1), some (.int i2)]) mi_X10_weight.2.2.2 rfl (Nat.le_of_ble_eq_true rfl) rfl (fun h hr hin => ?_)
  refine st_aload_1 h dX10_weight_0 ?_
  obtain ⟨g1, hF⟩ := gI hF
  refine gX9_6 h fl_X10_44 dX10_weight_1 g1 ?_
  refine st_iload_2 h dX10_weight_4 ?_
  refine st_bipush (v := 21) h dX10_weight_5 (by decide) ?_
  refine st_imul h dX10_weight_7 ?_
  refine st_aload_0 h dX10_weight_8 ?_
  obtain ⟨g2, hF⟩ := gI hF
  refine gX10_2 h fl_X10_9 dX10_weight_9 g2 ?_
  refine st_iload_2 h dX10_weight_12 ?_
  obtain ⟨g3, hF⟩ := gI hF
  refine iaC h dX10_weight_13 (sk_10_2 g2) g3 ?_
  refine st_iadd h dX10_weight_14 ?_
  obtain ⟨g4, hF⟩ := gI hF
  refine iaC h dX10_weight_15 (sk_9_6 g1) g4 ?_
  cases hF
  exact st_iret h hr dX10_weight_16
set_option maxRecDepth 100000 in
set_option maxHeartbeats 4000000 in
theorem w_X11_service {l : Launch} {G : Gv} {σ : Sto} {i1 : Int32} {i2 : Int32} {z : (Int32 × Sto)} (hF : F_X11_service σ i1 i2 = some z) : Con l yX11_service cX11_service 3 (some .int) 2 G shC νC [.ref 0, .int i1, .int i2] (ovC σ) (some (.int z.1)) (ovC z.2) := by
  rw [F_X11_service] at hF
  refine Con_enter (own := RX11) 0 (lv := [some (.ref 0), some (.int i1), some (.int i2)]) mi_X11_service.2.2.2 rfl (Nat.le_of_ble_eq_true rfl) rfl (fun h hr hin => ?_)
  refine st_aload_0 h dX11_service_0 ?_
  refine st_iload_1 h dX11_service_1 ?_
  obtain ⟨x1, hx1, hF⟩ := bI hF
  refine st_cVi (vs := [.int i1]) (st := []) h (w_X11_noService hx1) mi_X11_noService mv_X11_noService ml_X11_176 dX11_service_2 kC_0 rfl ⟨Nat.le_of_ble_eq_true rfl, Nat.le_of_ble_eq_true rfl⟩ (Nat.le_of_ble_eq_true rfl) rfl ?_
  refine st_if_eq (t := 14) h dX11_service_5 (by decide) (fun q1 => ?_) (fun q1 => ?_)
  · have hF := pI q1 hF
    refine st_iload_2 h dX11_service_14 ?_
    by_cases q2 : i2 = 0
    · have hF := pI q2 hF
      refine st_tableIn (t := 60) h dX11_service_15 (by rw [q2]; decide) (by rw [q2]; decide) (by rw [q2]; rfl) (by decide) ?_
      refine st_aload_0 h dX11_service_60 ?_
      refine st_aload_0 h dX11_service_61 ?_
      refine gX11_2 h fl_X11_23 dX11_service_62 (congrArg Prod.fst kC_0) ?_
      refine gX10_2 h fl_X11_146 dX11_service_65 (congrArg Prod.fst kC_3) ?_
      refine st_iload_1 h dX11_service_68 ?_
      obtain ⟨g1, hF⟩ := gI hF
      refine iaC h dX11_service_69 (sk_10_2 (congrArg Prod.fst kC_3)) g1 ?_
      obtain ⟨x2, hx2, hF⟩ := bI hF
      refine st_cVi (vs := [.int (σ.1 (3 + 1) (ix i1))]) (st := []) h (w_X11_answer hx2) mi_X11_answer mv_X11_answer ml_X11_125 dX11_service_70 kC_0 rfl ⟨Nat.le_of_ble_eq_true rfl, Nat.le_of_ble_eq_true rfl⟩ (Nat.le_of_ble_eq_true rfl) rfl ?_
      cases hF
      exact st_iret h hr dX11_service_73
    have hF := qI q2 hF
    by_cases q3 : i2 = 1
    · have hF := pI q3 hF
      refine st_tableIn (t := 74) h dX11_service_15 (by rw [q3]; decide) (by rw [q3]; decide) (by rw [q3]; rfl) (by decide) ?_
      refine st_aload_0 h dX11_service_74 ?_
      refine st_aload_0 h dX11_service_75 ?_
      refine gX11_2 h fl_X11_23 dX11_service_76 (congrArg Prod.fst kC_0) ?_
      refine gX10_3 h fl_X11_173 dX11_service_79 (congrArg Prod.fst kC_3) ?_
      refine st_iload_1 h dX11_service_82 ?_
      obtain ⟨g2, hF⟩ := gI hF
      refine iaC h dX11_service_83 (sk_10_3 (congrArg Prod.fst kC_3)) g2 ?_
      obtain ⟨x3, hx3, hF⟩ := bI hF
      refine st_cVi (vs := [.int (σ.1 (3 + 2) (ix i1))]) (st := []) h (w_X11_answer hx3) mi_X11_answer mv_X11_answer ml_X11_125 dX11_service_84 kC_0 rfl ⟨Nat.le_of_ble_eq_true rfl, Nat.le_of_ble_eq_true rfl⟩ (Nat.le_of_ble_eq_true rfl) rfl ?_
      cases hF
      exact st_iret h hr dX11_service_87
    have hF := qI q3 hF
    by_cases q4 : i2 = 2
    · have hF := pI q4 hF
      refine st_tableIn (t := 88) h dX11_service_15 (by rw [q4]; decide) (by rw [q4]; decide) (by rw [q4]; rfl) (by decide) ?_
      refine st_aload_0 h dX11_service_88 ?_
      refine st_aload_0 h dX11_service_89 ?_
      obtain ⟨x4, hx4, hF⟩ := bI hF
      refine gX11_11 h fl_X11_83 dX11_service_90 hx4 ?_
      refine st_ic_1 h dX11_service_93 ?_
      refine st_iload_1 h dX11_service_94 ?_
      obtain ⟨g3, hF⟩ := gI hF
      obtain ⟨x5, hx5, hF⟩ := bI hF
      refine st_cVi (vs := [.int 1, .int i1]) (st := [.ref 0]) h (w_X9_valueOf hx5) mi_X9_valueOf mv_X9_valueOf ml_X11_180 dX11_service_95 (shC_e g3) rfl ⟨Nat.le_of_ble_eq_true rfl, Nat.le_of_ble_eq_true rfl⟩ (Nat.le_of_ble_eq_true rfl) rfl ?_
      obtain ⟨x6, hx6, hF⟩ := bI hF
      refine st_cVi (vs := [.int x5]) (st := []) h (w_X11_answer hx6) mi_X11_answer mv_X11_answer ml_X11_125 dX11_service_98 kC_0 rfl ⟨Nat.le_of_ble_eq_true rfl, Nat.le_of_ble_eq_true rfl⟩ (Nat.le_of_ble_eq_true rfl) rfl ?_
      cases hF
      exact st_iret h hr dX11_service_101
    have hF := qI q4 hF
    by_cases q5 : i2 = 3
    · have hF := pI q5 hF
      refine st_tableIn (t := 102) h dX11_service_15 (by rw [q5]; decide) (by rw [q5]; decide) (by rw [q5]; rfl) (by decide) ?_
      refine st_aload_0 h dX11_service_102 ?_
      refine st_aload_0 h dX11_service_103 ?_
      obtain ⟨x7, hx7, hF⟩ := bI hF
      refine gX11_11 h fl_X11_83 dX11_service_104 hx7 ?_
      refine st_ic_2 h dX11_service_107 ?_
      refine st_iload_1 h dX11_service_108 ?_
      obtain ⟨g4, hF⟩ := gI hF
      obtain ⟨x8, hx8, hF⟩ := bI hF
      refine st_cVi (vs := [.int 2, .int i1]) (st := [.ref 0]) h (w_X9_valueOf hx8) mi_X9_valueOf mv_X9_valueOf ml_X11_180 dX11_service_109 (shC_e g4) rfl ⟨Nat.le_of_ble_eq_true rfl, Nat.le_of_ble_eq_true rfl⟩ (Nat.le_of_ble_eq_true rfl) rfl ?_
      obtain ⟨x9, hx9, hF⟩ := bI hF
      refine st_cVi (vs := [.int x8]) (st := []) h (w_X11_answer hx9) mi_X11_answer mv_X11_answer ml_X11_125 dX11_service_112 kC_0 rfl ⟨Nat.le_of_ble_eq_true rfl, Nat.le_of_ble_eq_true rfl⟩ (Nat.le_of_ble_eq_true rfl) rfl ?_
      cases hF
      exact st_iret h hr dX11_service_115
    have hF := qI q5 hF
    by_cases q6 : i2 = 4
    · have hF := pI q6 hF
      refine st_tableIn (t := 116) h dX11_service_15 (by rw [q6]; decide) (by rw [q6]; decide) (by rw [q6]; rfl) (by decide) ?_
      refine st_aload_0 h dX11_service_116 ?_
      refine st_aload_0 h dX11_service_117 ?_
      obtain ⟨x10, hx10, hF⟩ := bI hF
      refine gX11_11 h fl_X11_83 dX11_service_118 hx10 ?_
      refine st_ic_3 h dX11_service_121 ?_
      refine st_iload_1 h dX11_service_122 ?_
      obtain ⟨g5, hF⟩ := gI hF
      obtain ⟨x11, hx11, hF⟩ := bI hF
      refine st_cVi (vs := [.int 3, .int i1]) (st := [.ref 0]) h (w_X9_valueOf hx11) mi_X9_valueOf mv_X9_valueOf ml_X11_180 dX11_service_123 (shC_e g5) rfl ⟨Nat.le_of_ble_eq_true rfl, Nat.le_of_ble_eq_true rfl⟩ (Nat.le_of_ble_eq_true rfl) rfl ?_
      obtain ⟨x12, hx12, hF⟩ := bI hF
      refine st_cVi (vs := [.int x11]) (st := []) h (w_X11_answer hx12) mi_X11_answer mv_X11_answer ml_X11_125 dX11_service_126 kC_0 rfl ⟨Nat.le_of_ble_eq_true rfl, Nat.le_of_ble_eq_true rfl⟩ (Nat.le_of_ble_eq_true rfl) rfl ?_
      cases hF
      exact st_iret h hr dX11_service_129
    have hF := qI q6 hF
    by_cases q7 : i2 = 5
    · have hF := pI q7 hF
      refine st_tableIn (t := 130) h dX11_service_15 (by rw [q7]; decide) (by rw [q7]; decide) (by rw [q7]; rfl) (by decide) ?_
      refine st_aload_0 h dX11_service_130 ?_
      refine st_aload_0 h dX11_service_131 ?_
      refine gX11_2 h fl_X11_23 dX11_service_132 (congrArg Prod.fst kC_0) ?_
      refine gX10_4 h fl_X11_184 dX11_service_135 (congrArg Prod.fst kC_3) ?_
      refine st_iload_1 h dX11_service_138 ?_
      obtain ⟨g6, hF⟩ := gI hF
      refine iaC h dX11_service_139 (sk_10_4 (congrArg Prod.fst kC_3)) g6 ?_
      obtain ⟨x13, hx13, hF⟩ := bI hF
      refine st_cVi (vs := [.int (σ.1 (3 + 3) (ix i1))]) (st := []) h (w_X11_answer hx13) mi_X11_answer mv_X11_answer ml_X11_125 dX11_service_140 kC_0 rfl ⟨Nat.le_of_ble_eq_true rfl, Nat.le_of_ble_eq_true rfl⟩ (Nat.le_of_ble_eq_true rfl) rfl ?_
      cases hF
      exact st_iret h hr dX11_service_143
    have hF := qI q7 hF
    by_cases q8 : i2 = 6
    · have hF := pI q8 hF
      refine st_tableIn (t := 144) h dX11_service_15 (by rw [q8]; decide) (by rw [q8]; decide) (by rw [q8]; rfl) (by decide) ?_
      refine st_aload_0 h dX11_service_144 ?_
      refine st_aload_0 h dX11_service_145 ?_
      obtain ⟨x14, hx14, hF⟩ := bI hF
      refine gX11_11 h fl_X11_83 dX11_service_146 hx14 ?_
      refine st_ic_5 h dX11_service_149 ?_
      refine st_iload_1 h dX11_service_150 ?_
      obtain ⟨g7, hF⟩ := gI hF
      obtain ⟨x15, hx15, hF⟩ := bI hF
      refine st_cVi (vs := [.int 5, .int i1]) (st := [.ref 0]) h (w_X9_valueOf hx15) mi_X9_valueOf mv_X9_valueOf ml_X11_180 dX11_service_151 (shC_e g7) rfl ⟨Nat.le_of_ble_eq_true rfl, Nat.le_of_ble_eq_true rfl⟩ (Nat.le_of_ble_eq_true rfl) rfl ?_
      obtain ⟨x16, hx16, hF⟩ := bI hF
      refine st_cVi (vs := [.int x15]) (st := []) h (w_X11_answer hx16) mi_X11_answer mv_X11_answer ml_X11_125 dX11_service_154 kC_0 rfl ⟨Nat.le_of_ble_eq_true rfl, Nat.le_of_ble_eq_true rfl⟩ (Nat.le_of_ble_eq_true rfl) rfl ?_
      cases hF
      exact st_iret h hr dX11_service_157
    have hF := qI q8 hF
    by_cases q9 : i2 = 7
    · have hF := pI q9 hF
      refine st_tableIn (t := 158) h dX11_service_15 (by rw [q9]; decide) (by rw [q9]; decide) (by rw [q9]; rfl) (by decide) ?_
      refine st_aload_0 h dX11_service_158 ?_
      refine st_aload_0 h dX11_service_159 ?_
      refine gX11_2 h fl_X11_23 dX11_service_160 (congrArg Prod.fst kC_0) ?_
      refine st_aload_0 h dX11_service_163 ?_
      obtain ⟨x17, hx17, hF⟩ := bI hF
      refine gX11_11 h fl_X11_83 dX11_service_164 hx17 ?_
      refine st_iload_1 h dX11_service_167 ?_
      obtain ⟨x18, hx18, hF⟩ := bI hF
      refine st_cVi (vs := [.ref x17, .int i1]) (st := [.ref 0]) h (w_X10_weight hx18) mi_X10_weight mv_X10_weight ml_X11_187 dX11_service_168 kC_3 rfl ⟨Nat.le_of_ble_eq_true rfl, Nat.le_of_ble_eq_true rfl⟩ (Nat.le_of_ble_eq_true rfl) rfl ?_
      obtain ⟨x19, hx19, hF⟩ := bI hF
      refine st_cVi (vs := [.int x18]) (st := []) h (w_X11_answer hx19) mi_X11_answer mv_X11_answer ml_X11_125 dX11_service_171 kC_0 rfl ⟨Nat.le_of_ble_eq_true rfl, Nat.le_of_ble_eq_true rfl⟩ (Nat.le_of_ble_eq_true rfl) rfl ?_
      cases hF
      exact st_iret h hr dX11_service_174
    have hF := qI q9 hF
    refine st_tableOut (t := 175) h dX11_service_15 (tsw_0_7 q2 q3 q4 q5 q6 q7 q8 q9) (by decide) ?_
    refine st_aload_0 h dX11_service_175 ?_
    refine st_ic_1 h dX11_service_176 ?_
    obtain ⟨x20, hx20, hF⟩ := bI hF
    refine st_cVi (vs := [.int 1]) (st := []) h (w_X11_refuse hx20) mi_X11_refuse mv_X11_refuse ml_X11_99 dX11_service_177 kC_0 rfl ⟨Nat.le_of_ble_eq_true rfl, Nat.le_of_ble_eq_true rfl⟩ (Nat.le_of_ble_eq_true rfl) rfl ?_
    cases hF
    exact st_iret h hr dX11_service_180
  · have hF := qI q1 hF
    refine st_aload_0 h dX11_service_8 ?_
    refine st_ic_1 h dX11_service_9 ?_
    obtain ⟨x21, hx21, hF⟩ := bI hF
    refine st_cVi (vs := [.int 1]) (st := []) h (w_X11_refuse hx21) mi_X11_refuse mv_X11_refuse ml_X11_99 dX11_service_10 kC_0 rfl ⟨Nat.le_of_ble_eq_true rfl, Nat.le_of_ble_eq_true rfl⟩ (Nat.le_of_ble_eq_true rfl) rfl ?_
    cases hF
    exact st_iret h hr dX11_service_13
set_option maxRecDepth 100000 in
set_option maxHeartbeats 4000000 in
theorem w_X11_rule_16 {p : Program} {l : Launch} {e : Env} {s : State} {m : MethodId} {args : Array Value} {below : List Frame} {meth : Method} {c : Code} {G : Gv} (h : Cx p s m args meth c G cX11_rule 2 RX11) (hr : meth.sig.returnType = (some .int)) : ∀ (σ : Sto) (z : (Int32 × Sto)), F_X11_rule_16 σ  = some z → AW p l e (rmD 2 0 0) s m args below meth c (MQ below (QcR G shC νC (some (.int z.1)) (ovC z.2)) args s 0 0 (gA G)) 0 0 G 2 16 [some (.ref 0), none] [] shC νC (ovC σ) := by
  intro σ z hF
  rw [F_X11_rule_16] at hF
  refine st_aload_0 h dX11_rule_16 ?_
  refine st_ic_1 h dX11_rule_17 ?_
  obtain ⟨x1, hx1, hF⟩ := bI hF
  refine st_cVi (vs := [.int 1]) (st := []) h (w_X11_refuse hx1) mi_X11_refuse mv_X11_refuse ml_X11_99 dX11_rule_18 kC_0 rfl ⟨Nat.le_of_ble_eq_true rfl, Nat.le_of_ble_eq_true rfl⟩ (Nat.le_of_ble_eq_true rfl) rfl ?_
  cases hF
  exact st_iret h hr dX11_rule_21
set_option maxRecDepth 100000 in
set_option maxHeartbeats 4000000 in
theorem w_X11_rule {l : Launch} {G : Gv} {σ : Sto} {i1 : Int32} {z : (Int32 × Sto)} (hF : F_X11_rule σ i1 = some z) : Con l yX11_rule cX11_rule 2 (some .int) 2 G shC νC [.ref 0, .int i1] (ovC σ) (some (.int z.1)) (ovC z.2) := by
  rw [F_X11_rule] at hF
  refine Con_enter (own := RX11) 0 (lv := [some (.ref 0), some (.int i1)]) mi_X11_rule.2.2.2 rfl (Nat.le_of_ble_eq_true rfl) rfl (fun h hr hin => ?_)
  refine st_aload_0 h dX11_rule_0 ?_
  refine gX11_13 h fl_X11_131 dX11_rule_1 (congrArg Prod.fst kC_0) ?_
  refine st_if_eq (t := 16) h dX11_rule_4 (by decide) (fun q1 => ?_) (fun q1 => ?_)
  · have hF := pI q1 hF
    exact st_sub (ls_s (ls_n ls_e)) (w_X11_rule_16 h hr σ  z hF)
  · have hF := qI q1 hF
    refine st_iload_1 h dX11_rule_7 ?_
    refine st_if_lt (t := 16) h dX11_rule_8 (by decide) (fun q2 => ?_) (fun q2 => ?_)
    · have hF := pI q2 hF
      exact st_sub (ls_s (ls_n ls_e)) (w_X11_rule_16 h hr σ  z hF)
    · have hF := qI q2 hF
      refine st_iload_1 h dX11_rule_11 ?_
      refine st_ic_4 h dX11_rule_12 ?_
      refine st_icmp_lt (t := 22) h dX11_rule_13 (by decide) (fun q3 => ?_) (fun q3 => ?_)
      · have hF := pI q3 hF
        refine st_aload_0 h dX11_rule_22 ?_
        refine st_aload_0 h dX11_rule_23 ?_
        refine gX11_2 h fl_X11_23 dX11_rule_24 (congrArg Prod.fst kC_0) ?_
        refine gX10_5 h fl_X11_191 dX11_rule_27 (congrArg Prod.fst kC_3) ?_
        refine st_iload_1 h dX11_rule_30 ?_
        obtain ⟨g1, hF⟩ := gI hF
        refine iaC h dX11_rule_31 (sk_10_5 (congrArg Prod.fst kC_3)) g1 ?_
        obtain ⟨x1, hx1, hF⟩ := bI hF
        refine st_cVi (vs := [.int (σ.1 (3 + 4) (ix i1))]) (st := []) h (w_X11_answer hx1) mi_X11_answer mv_X11_answer ml_X11_125 dX11_rule_32 kC_0 rfl ⟨Nat.le_of_ble_eq_true rfl, Nat.le_of_ble_eq_true rfl⟩ (Nat.le_of_ble_eq_true rfl) rfl ?_
        cases hF
        exact st_iret h hr dX11_rule_35
      · have hF := qI q3 hF
        exact st_sub (ls_s (ls_n ls_e)) (w_X11_rule_16 h hr σ  z hF)
set_option maxRecDepth 100000 in
set_option maxHeartbeats 4000000 in
theorem w_X11_carried_16 {p : Program} {l : Launch} {e : Env} {s : State} {m : MethodId} {args : Array Value} {below : List Frame} {meth : Method} {c : Code} {G : Gv} (h : Cx p s m args meth c G cX11_carried 2 RX11) (hr : meth.sig.returnType = (some .int)) : ∀ (σ : Sto) (z : (Int32 × Sto)), F_X11_carried_16 σ  = some z → AW p l e (rmD 6 0 0) s m args below meth c (MQ below (QcR G shC νC (some (.int z.1)) (ovC z.2)) args s 0 0 (gA G)) 0 0 G 2 16 [some (.ref 0), none] [] shC νC (ovC σ) := by
  intro σ z hF
  rw [F_X11_carried_16] at hF
  refine st_aload_0 h dX11_carried_16 ?_
  refine st_ic_1 h dX11_carried_17 ?_
  obtain ⟨x1, hx1, hF⟩ := bI hF
  refine st_cVi (vs := [.int 1]) (st := []) h (w_X11_refuse hx1) mi_X11_refuse mv_X11_refuse ml_X11_99 dX11_carried_18 kC_0 rfl ⟨Nat.le_of_ble_eq_true rfl, Nat.le_of_ble_eq_true rfl⟩ (Nat.le_of_ble_eq_true rfl) rfl ?_
  cases hF
  exact st_iret h hr dX11_carried_21
set_option maxRecDepth 100000 in
set_option maxHeartbeats 4000000 in
theorem w_X11_carried_48 {p : Program} {l : Launch} {e : Env} {s : State} {m : MethodId} {args : Array Value} {below : List Frame} {meth : Method} {c : Code} {G : Gv} (h : Cx p s m args meth c G cX11_carried 2 RX11) (hr : meth.sig.returnType = (some .int)) : ∀ (σ : Sto) (e1 : Int32) (z : (Int32 × Sto)), F_X11_carried_48 σ e1 = some z → AW p l e (rmD 6 0 0) s m args below meth c (MQ below (QcR G shC νC (some (.int z.1)) (ovC z.2)) args s 0 0 (gA G)) 0 0 G 2 48 [none, none] [.int e1, .ref 0] shC νC (ovC σ) := by
  intro σ e1 z hF
  rw [F_X11_carried_48] at hF
  obtain ⟨x1, hx1, hF⟩ := bI hF
  refine st_cVi (vs := [.int e1]) (st := []) h (w_X11_answer hx1) mi_X11_answer mv_X11_answer ml_X11_125 dX11_carried_48 kC_0 rfl ⟨Nat.le_of_ble_eq_true rfl, Nat.le_of_ble_eq_true rfl⟩ (Nat.le_of_ble_eq_true rfl) rfl ?_
  cases hF
  exact st_iret h hr dX11_carried_51
set_option maxRecDepth 100000 in
set_option maxHeartbeats 4000000 in
theorem w_X11_carried {l : Launch} {G : Gv} {σ : Sto} {i1 : Int32} {z : (Int32 × Sto)} (hF : F_X11_carried σ i1 = some z) : Con l yX11_carried cX11_carried 2 (some .int) 6 G shC νC [.ref 0, .int i1] (ovC σ) (some (.int z.1)) (ovC z.2) := by
  rw [F_X11_carried] at hF
  refine Con_enter (own := RX11) 0 (lv := [some (.ref 0), some (.int i1)]) mi_X11_carried.2.2.2 rfl (Nat.le_of_ble_eq_true rfl) rfl (fun h hr hin => ?_)
  refine st_aload_0 h dX11_carried_0 ?_
  refine gX11_13 h fl_X11_131 dX11_carried_1 (congrArg Prod.fst kC_0) ?_
  refine st_if_eq (t := 16) h dX11_carried_4 (by decide) (fun q1 => ?_) (fun q1 => ?_)
  · have hF := pI q1 hF
    exact st_sub (ls_s (ls_n ls_e)) (w_X11_carried_16 h hr σ  z hF)
  · have hF := qI q1 hF
    refine st_iload_1 h dX11_carried_7 ?_
    refine st_if_lt (t := 16) h dX11_carried_8 (by decide) (fun q2 => ?_) (fun q2 => ?_)
    · have hF := pI q2 hF
      exact st_sub (ls_s (ls_n ls_e)) (w_X11_carried_16 h hr σ  z hF)
    · have hF := qI q2 hF
      refine st_iload_1 h dX11_carried_11 ?_
      refine st_ic_1 h dX11_carried_12 ?_
      refine st_icmp_le (t := 22) h dX11_carried_13 (by decide) (fun q3 => ?_) (fun q3 => ?_)
      · have hF := pI q3 hF
        refine st_aload_0 h dX11_carried_22 ?_
        refine st_iload_1 h dX11_carried_23 ?_
        refine st_if_ne (t := 37) h dX11_carried_24 (by decide) (fun q4 => ?_) (fun q4 => ?_)
        · have hF := qI q4 hF
          refine st_aload_0 h dX11_carried_37 ?_
          refine gX11_2 h fl_X11_23 dX11_carried_38 (congrArg Prod.fst kC_0) ?_
          refine st_aload_0 h dX11_carried_41 ?_
          obtain ⟨x1, hx1, hF⟩ := bI hF
          refine gX11_11 h fl_X11_83 dX11_carried_42 hx1 ?_
          obtain ⟨x2, hx2, hF⟩ := bI hF
          refine st_cVi (vs := [.ref x1]) (st := [.ref 0]) h (w_X10_left hx2) mi_X10_left mv_X10_left ml_X11_197 dX11_carried_45 kC_3 rfl ⟨Nat.le_of_ble_eq_true rfl, Nat.le_of_ble_eq_true rfl⟩ (Nat.le_of_ble_eq_true rfl) rfl ?_
          exact st_sub (ls_n (ls_n ls_e)) (w_X11_carried_48 h hr σ x2 z hF)
        · have hF := pI q4 hF
          refine st_aload_0 h dX11_carried_27 ?_
          refine gX11_2 h fl_X11_23 dX11_carried_28 (congrArg Prod.fst kC_0) ?_
          refine gX10_1 h fl_X11_194 dX11_carried_31 (congrArg Prod.fst kC_3) ?_
          refine st_goto (t := 48) h dX11_carried_34 (by decide) ?_
          exact st_sub (ls_n (ls_n ls_e)) (w_X11_carried_48 h hr σ (σ.1 3 1) z hF)
      · have hF := qI q3 hF
        exact st_sub (ls_s (ls_n ls_e)) (w_X11_carried_16 h hr σ  z hF)
set_option maxRecDepth 100000 in
set_option maxHeartbeats 4000000 in
theorem w_X11_noPrice_10 {p : Program} {l : Launch} {e : Env} {s : State} {m : MethodId} {args : Array Value} {below : List Frame} {meth : Method} {c : Code} {G : Gv} (h : Cx p s m args meth c G cX11_noPrice 1 RX11) (hr : meth.sig.returnType = (some .boolean)) : ∀ (σ : Sto) (z : Int32), F_X11_noPrice_10 σ  = some z → AW p l e (rmD 1 0 0) s m args below meth c (MQ below (QcR G shC νC (some (.int z)) (ovC σ)) args s 0 0 (gA G)) 0 0 G 1 10 [none] [] shC νC (ovC σ) := by
  intro σ z hF
  rw [F_X11_noPrice_10] at hF
  refine st_ic_1 h dX11_noPrice_10 ?_
  refine st_goto (t := 15) h dX11_noPrice_11 (by decide) ?_
  cases hF
  exact st_zret h hr (Or.inr rfl) dX11_noPrice_15
set_option maxRecDepth 100000 in
set_option maxHeartbeats 4000000 in
theorem w_X11_noPrice {l : Launch} {G : Gv} {σ : Sto} {i0 : Int32} {z : Int32} (hF : F_X11_noPrice σ i0 = some z) : Con l yX11_noPrice cX11_noPrice 1 (some .boolean) 1 G shC νC [.int i0] (ovC σ) (some (.int z)) (ovC σ) := by
  rw [F_X11_noPrice] at hF
  refine Con_enter (own := RX11) 0 (lv := [some (.int i0)]) mi_X11_noPrice.2.2.2 rfl (Nat.le_of_ble_eq_true rfl) rfl (fun h hr hin => ?_)
  refine st_iload_0 h dX11_noPrice_0 ?_
  refine st_if_lt (t := 10) h dX11_noPrice_1 (by decide) (fun q1 => ?_) (fun q1 => ?_)
  · have hF := pI q1 hF
    exact st_sub (ls_n ls_e) (w_X11_noPrice_10 h hr σ  z hF)
  · have hF := qI q1 hF
    refine st_iload_0 h dX11_noPrice_4 ?_
    refine st_bipush (v := 20) h dX11_noPrice_5 (by decide) ?_
    refine st_icmp_le (t := 14) h dX11_noPrice_7 (by decide) (fun q2 => ?_) (fun q2 => ?_)
    · have hF := pI q2 hF
      refine st_ic_0 h dX11_noPrice_14 ?_
      cases hF
      exact st_zret h hr (Or.inl rfl) dX11_noPrice_15
    · have hF := qI q2 hF
      exact st_sub (ls_n ls_e) (w_X11_noPrice_10 h hr σ  z hF)
set_option maxRecDepth 100000 in
set_option maxHeartbeats 4000000 in
theorem w_X11_fromTable {l : Launch} {G : Gv} {σ : Sto} {a1 : Nat} {i2 : Int32} {i3 : Int32} {z : (Int32 × Sto)} (hF : F_X11_fromTable σ a1 i2 i3 = some z) : Con l yX11_fromTable cX11_fromTable 4 (some .int) 2 G shC νC [.ref 0, .ref a1, .int i2, .int i3] (ovC σ) (some (.int z.1)) (ovC z.2) := by
  rw [F_X11_fromTable] at hF
  refine Con_enter (own := RX11) 0 (lv := [some (.ref 0), some (.ref a1), some (.int i2), some (.int i3)]) mi_X11_fromTable.2.2.2 rfl (Nat.le_of_ble_eq_true rfl) rfl (fun h hr hin => ?_)
  refine st_aload_0 h dX11_fromTable_0 ?_
  refine st_iload_2 h dX11_fromTable_1 ?_
  obtain ⟨x1, hx1, hF⟩ := bI hF
  refine st_cVi (vs := [.int i2]) (st := []) h (w_X11_noService hx1) mi_X11_noService mv_X11_noService ml_X11_176 dX11_fromTable_2 kC_0 rfl ⟨Nat.le_of_ble_eq_true rfl, Nat.le_of_ble_eq_true rfl⟩ (Nat.le_of_ble_eq_true rfl) rfl ?_
  refine st_if_eq (t := 14) h dX11_fromTable_5 (by decide) (fun q1 => ?_) (fun q1 => ?_)
  · have hF := pI q1 hF
    refine st_iload_3 h dX11_fromTable_14 ?_
    obtain ⟨x2, hx2, hF⟩ := bI hF
    refine st_cSi (vs := [.int i3]) (st := []) h (w_X11_noPrice hx2) mi_X11_noPrice ms_X11_noPrice ml_X11_275 dX11_fromTable_15 rfl ⟨Nat.le_of_ble_eq_true rfl, Nat.le_of_ble_eq_true rfl⟩ (Nat.le_of_ble_eq_true rfl) rfl ?_
    refine st_if_eq (t := 27) h dX11_fromTable_18 (by decide) (fun q2 => ?_) (fun q2 => ?_)
    · have hF := pI q2 hF
      refine st_aload_0 h dX11_fromTable_27 ?_
      refine st_aload_1 h dX11_fromTable_28 ?_
      refine st_iload_2 h dX11_fromTable_29 ?_
      refine st_bipush (v := 21) h dX11_fromTable_30 (by decide) ?_
      refine st_imul h dX11_fromTable_32 ?_
      refine st_iload_3 h dX11_fromTable_33 ?_
      refine st_iadd h dX11_fromTable_34 ?_
      obtain ⟨g1, hF⟩ := gI hF
      obtain ⟨g2, hF⟩ := gI hF
      refine iaC h dX11_fromTable_35 g1 g2 ?_
      obtain ⟨x3, hx3, hF⟩ := bI hF
      refine st_cVi (vs := [.int (σ.1 a1 (ix ((i2 * 21) + i3)))]) (st := []) h (w_X11_answer hx3) mi_X11_answer mv_X11_answer ml_X11_125 dX11_fromTable_36 kC_0 rfl ⟨Nat.le_of_ble_eq_true rfl, Nat.le_of_ble_eq_true rfl⟩ (Nat.le_of_ble_eq_true rfl) rfl ?_
      cases hF
      exact st_iret h hr dX11_fromTable_39
    · have hF := qI q2 hF
      refine st_aload_0 h dX11_fromTable_21 ?_
      refine st_ic_2 h dX11_fromTable_22 ?_
      obtain ⟨x4, hx4, hF⟩ := bI hF
      refine st_cVi (vs := [.int 2]) (st := []) h (w_X11_refuse hx4) mi_X11_refuse mv_X11_refuse ml_X11_99 dX11_fromTable_23 kC_0 rfl ⟨Nat.le_of_ble_eq_true rfl, Nat.le_of_ble_eq_true rfl⟩ (Nat.le_of_ble_eq_true rfl) rfl ?_
      cases hF
      exact st_iret h hr dX11_fromTable_26
  · have hF := qI q1 hF
    refine st_aload_0 h dX11_fromTable_8 ?_
    refine st_ic_1 h dX11_fromTable_9 ?_
    obtain ⟨x5, hx5, hF⟩ := bI hF
    refine st_cVi (vs := [.int 1]) (st := []) h (w_X11_refuse hx5) mi_X11_refuse mv_X11_refuse ml_X11_99 dX11_fromTable_10 kC_0 rfl ⟨Nat.le_of_ble_eq_true rfl, Nat.le_of_ble_eq_true rfl⟩ (Nat.le_of_ble_eq_true rfl) rfl ?_
    cases hF
    exact st_iret h hr dX11_fromTable_13
set_option maxRecDepth 100000 in
set_option maxHeartbeats 4000000 in
theorem w_X11_bought {l : Launch} {G : Gv} {σ : Sto} {i1 : Int32} {i2 : Int32} {z : (Int32 × Sto)} (hF : F_X11_bought σ i1 i2 = some z) : Con l yX11_bought cX11_bought 3 (some .int) 3 G shC νC [.ref 0, .int i1, .int i2] (ovC σ) (some (.int z.1)) (ovC z.2) := by
  rw [F_X11_bought] at hF
  refine Con_enter (own := RX11) 0 (lv := [some (.ref 0), some (.int i1), some (.int i2)]) mi_X11_bought.2.2.2 rfl (Nat.le_of_ble_eq_true rfl) rfl (fun h hr hin => ?_)
  refine st_aload_0 h dX11_bought_0 ?_
  refine st_aload_0 h dX11_bought_1 ?_
  obtain ⟨x1, hx1, hF⟩ := bI hF
  refine gX11_11 h fl_X11_83 dX11_bought_2 hx1 ?_
  obtain ⟨g1, hF⟩ := gI hF
  refine gX9_6 h fl_X11_200 dX11_bought_5 g1 ?_
  refine st_iload_1 h dX11_bought_8 ?_
  refine st_iload_2 h dX11_bought_9 ?_
  obtain ⟨x2, hx2, hF⟩ := bI hF
  refine st_cVi (vs := [.ref (x1 + 5), .int i1, .int i2]) (st := []) h (w_X11_fromTable hx2) mi_X11_fromTable mv_X11_fromTable ml_X11_203 dX11_bought_10 kC_0 rfl ⟨Nat.le_of_ble_eq_true rfl, Nat.le_of_ble_eq_true rfl⟩ (Nat.le_of_ble_eq_true rfl) rfl ?_
  cases hF
  exact st_iret h hr dX11_bought_13
set_option maxRecDepth 100000 in
set_option maxHeartbeats 4000000 in
theorem w_X11_profit {l : Launch} {G : Gv} {σ : Sto} {i1 : Int32} {i2 : Int32} {z : (Int32 × Sto)} (hF : F_X11_profit σ i1 i2 = some z) : Con l yX11_profit cX11_profit 3 (some .int) 3 G shC νC [.ref 0, .int i1, .int i2] (ovC σ) (some (.int z.1)) (ovC z.2) := by
  rw [F_X11_profit] at hF
  refine Con_enter (own := RX11) 0 (lv := [some (.ref 0), some (.int i1), some (.int i2)]) mi_X11_profit.2.2.2 rfl (Nat.le_of_ble_eq_true rfl) rfl (fun h hr hin => ?_)
  refine st_aload_0 h dX11_profit_0 ?_
  refine st_aload_0 h dX11_profit_1 ?_
  obtain ⟨x1, hx1, hF⟩ := bI hF
  refine gX11_11 h fl_X11_83 dX11_profit_2 hx1 ?_
  obtain ⟨g1, hF⟩ := gI hF
  refine gX9_7 h fl_X11_207 dX11_profit_5 g1 ?_
  refine st_iload_1 h dX11_profit_8 ?_
  refine st_iload_2 h dX11_profit_9 ?_
  obtain ⟨x2, hx2, hF⟩ := bI hF
  refine st_cVi (vs := [.ref (x1 + 6), .int i1, .int i2]) (st := []) h (w_X11_fromTable hx2) mi_X11_fromTable mv_X11_fromTable ml_X11_203 dX11_profit_10 kC_0 rfl ⟨Nat.le_of_ble_eq_true rfl, Nat.le_of_ble_eq_true rfl⟩ (Nat.le_of_ble_eq_true rfl) rfl ?_
  cases hF
  exact st_iret h hr dX11_profit_13
set_option maxRecDepth 100000 in
set_option maxHeartbeats 4000000 in
theorem w_X11_good {l : Launch} {G : Gv} {σ : Sto} {i1 : Int32} {i2 : Int32} {z : (Int32 × Sto)} (hF : F_X11_good σ i1 i2 = some z) : Con l yX11_good cX11_good 3 (some .int) 3 G shC νC [.ref 0, .int i1, .int i2] (ovC σ) (some (.int z.1)) (ovC z.2) := by
  rw [F_X11_good] at hF
  refine Con_enter (own := RX11) 0 (lv := [some (.ref 0), some (.int i1), some (.int i2)]) mi_X11_good.2.2.2 rfl (Nat.le_of_ble_eq_true rfl) rfl (fun h hr hin => ?_)
  refine st_aload_0 h dX11_good_0 ?_
  refine st_aload_0 h dX11_good_1 ?_
  obtain ⟨x1, hx1, hF⟩ := bI hF
  refine gX11_11 h fl_X11_83 dX11_good_2 hx1 ?_
  obtain ⟨g1, hF⟩ := gI hF
  refine gX9_8 h fl_X11_210 dX11_good_5 g1 ?_
  refine st_iload_1 h dX11_good_8 ?_
  refine st_iload_2 h dX11_good_9 ?_
  obtain ⟨x2, hx2, hF⟩ := bI hF
  refine st_cVi (vs := [.ref (x1 + 7), .int i1, .int i2]) (st := []) h (w_X11_fromTable hx2) mi_X11_fromTable mv_X11_fromTable ml_X11_203 dX11_good_10 kC_0 rfl ⟨Nat.le_of_ble_eq_true rfl, Nat.le_of_ble_eq_true rfl⟩ (Nat.le_of_ble_eq_true rfl) rfl ?_
  cases hF
  exact st_iret h hr dX11_good_13
set_option maxRecDepth 100000 in
set_option maxHeartbeats 4000000 in
theorem w_X10_spentWith {l : Launch} {G : Gv} {σ : Sto} {a0 : Nat} {a1 : Nat} {i2 : Int32} {i3 : Int32} {z : Int32} (hF : F_X10_spentWith σ a0 a1 i2 i3 = some z) : Con l yX10_spentWith cX10_spentWith 4 (some .int) 3 G shC νC [.ref a0, .ref a1, .int i2, .int i3] (ovC σ) (some (.int z)) (ovC σ) := by
  rw [F_X10_spentWith] at hF
  refine Con_enter (own := RX10) 0 (lv := [some (.ref a0), some (.ref a1), some (.int i2), some (.int i3)]) mi_X10_spentWith.2.2.2 rfl (Nat.le_of_ble_eq_true rfl) rfl (fun h hr hin => ?_)
  refine st_aload_0 h dX10_spentWith_0 ?_
  refine st_aload_1 h dX10_spentWith_1 ?_
  obtain ⟨g1, hF⟩ := gI hF
  obtain ⟨x1, hx1, hF⟩ := bI hF
  refine st_cVi (vs := [.ref a1]) (st := []) h (w_X10_spent hx1) mi_X10_spent mv_X10_spent ml_X10_77 dX10_spentWith_2 (shC_e g1) rfl ⟨Nat.le_of_ble_eq_true rfl, Nat.le_of_ble_eq_true rfl⟩ (Nat.le_of_ble_eq_true rfl) rfl ?_
  refine st_iload_3 h dX10_spentWith_5 ?_
  refine st_aload_0 h dX10_spentWith_6 ?_
  refine gX10_3 h fl_X10_15 dX10_spentWith_7 g1 ?_
  refine st_iload_2 h dX10_spentWith_10 ?_
  obtain ⟨g2, hF⟩ := gI hF
  refine iaC h dX10_spentWith_11 (sk_10_3 g1) g2 ?_
  refine st_isub h dX10_spentWith_12 ?_
  refine st_aload_0 h dX10_spentWith_13 ?_
  refine st_aload_1 h dX10_spentWith_14 ?_
  refine st_iload_2 h dX10_spentWith_15 ?_
  obtain ⟨x2, hx2, hF⟩ := bI hF
  refine st_cVi (vs := [.ref a1, .int i2]) (st := [.int (i3 - (σ.1 (a0 + 2) (ix i2))), .int x1]) h (w_X10_weight hx2) mi_X10_weight mv_X10_weight ml_X10_80 dX10_spentWith_16 (shC_e g1) rfl ⟨Nat.le_of_ble_eq_true rfl, Nat.le_of_ble_eq_true rfl⟩ (Nat.le_of_ble_eq_true rfl) rfl ?_
  refine st_imul h dX10_spentWith_19 ?_
  refine st_iadd h dX10_spentWith_20 ?_
  cases hF
  exact st_iret h hr dX10_spentWith_21
set_option maxRecDepth 100000 in
set_option maxHeartbeats 4000000 in
theorem w_X11_most_29 {p : Program} {l : Launch} {e : Env} {s : State} {m : MethodId} {args : Array Value} {below : List Frame} {meth : Method} {c : Code} {G : Gv} (h : Cx p s m args meth c G cX11_most 4 RX11) (hr : meth.sig.returnType = (some .int)) : ∀ (n : Nat) (σ : Sto) (i1 : Int32) (i2 : Int32) (i3 : Int32) (z : (Int32 × Sto)), F_X11_most_29 n σ i1 i2 i3 = some z → AW p l e (rmD 5 0 0) s m args below meth c (MQ below (QcR G shC νC (some (.int z.1)) (ovC z.2)) args s 0 0 (gA G)) 0 0 G 4 29 [some (.ref 0), some (.int i1), some (.int i2), some (.int i3)] [] shC νC (ovC σ) := by
  intro n
  induction n with
  | zero => intro σ i1 i2 i3 z hF; cases hF
  | succ n ih =>
    intro σ i1 i2 i3 z hF
    rw [F_X11_most_29] at hF
    refine st_iload_3 h dX11_most_29 ?_
    refine st_if_lt (t := 62) h dX11_most_30 (by decide) (fun q1 => ?_) (fun q1 => ?_)
    · have hF := pI q1 hF
      refine st_aload_0 h dX11_most_62 ?_
      refine st_bipush (v := (-2)) h dX11_most_63 (by decide) ?_
      obtain ⟨x1, hx1, hF⟩ := bI hF
      refine st_cVi (vs := [.int (-2)]) (st := []) h (w_X11_answer hx1) mi_X11_answer mv_X11_answer ml_X11_125 dX11_most_65 kC_0 rfl ⟨Nat.le_of_ble_eq_true rfl, Nat.le_of_ble_eq_true rfl⟩ (Nat.le_of_ble_eq_true rfl) rfl ?_
      cases hF
      exact st_iret h hr dX11_most_68
    · have hF := qI q1 hF
      refine st_aload_0 h dX11_most_33 ?_
      refine gX11_2 h fl_X11_23 dX11_most_34 (congrArg Prod.fst kC_0) ?_
      refine st_aload_0 h dX11_most_37 ?_
      obtain ⟨x2, hx2, hF⟩ := bI hF
      refine gX11_11 h fl_X11_83 dX11_most_38 hx2 ?_
      refine st_iload_1 h dX11_most_41 ?_
      refine st_iload_3 h dX11_most_42 ?_
      obtain ⟨x3, hx3, hF⟩ := bI hF
      refine st_cVi (vs := [.ref x2, .int i1, .int i3]) (st := []) h (w_X10_spentWith hx3) mi_X10_spentWith mv_X10_spentWith ml_X11_213 dX11_most_43 kC_3 rfl ⟨Nat.le_of_ble_eq_true rfl, Nat.le_of_ble_eq_true rfl⟩ (Nat.le_of_ble_eq_true rfl) rfl ?_
      refine st_iload_2 h dX11_most_46 ?_
      refine st_icmp_gt (t := 56) h dX11_most_47 (by decide) (fun q2 => ?_) (fun q2 => ?_)
      · have hF := pI q2 hF
        refine st_iinc_3 (y := i3 + (-1)) h dX11_most_56 (ii_m1 _) ?_
        refine st_goto (t := 29) h dX11_most_59 (by decide) ?_
        exact st_sub (ls_s (ls_s (ls_s (ls_s ls_e)))) (ih σ i1 i2 (i3 + (-1)) z hF)
      · have hF := qI q2 hF
        refine st_aload_0 h dX11_most_50 ?_
        refine st_iload_3 h dX11_most_51 ?_
        obtain ⟨x4, hx4, hF⟩ := bI hF
        refine st_cVi (vs := [.int i3]) (st := []) h (w_X11_answer hx4) mi_X11_answer mv_X11_answer ml_X11_125 dX11_most_52 kC_0 rfl ⟨Nat.le_of_ble_eq_true rfl, Nat.le_of_ble_eq_true rfl⟩ (Nat.le_of_ble_eq_true rfl) rfl ?_
        cases hF
        exact st_iret h hr dX11_most_55
set_option maxRecDepth 100000 in
set_option maxHeartbeats 4000000 in
theorem w_X11_most {l : Launch} {G : Gv} {σ : Sto} {i1 : Int32} {z : (Int32 × Sto)} (hF : F_X11_most σ i1 = some z) : Con l yX11_most cX11_most 4 (some .int) 5 G shC νC [.ref 0, .int i1] (ovC σ) (some (.int z.1)) (ovC z.2) := by
  rw [F_X11_most] at hF
  refine Con_enter (own := RX11) 2 (lv := [some (.ref 0), some (.int i1), none, none]) mi_X11_most.2.2.2 rfl (Nat.le_of_ble_eq_true rfl) rfl (fun h hr hin => ?_)
  refine st_aload_0 h dX11_most_0 ?_
  refine st_iload_1 h dX11_most_1 ?_
  obtain ⟨x1, hx1, hF⟩ := bI hF
  refine st_cVi (vs := [.int i1]) (st := []) h (w_X11_noService hx1) mi_X11_noService mv_X11_noService ml_X11_176 dX11_most_2 kC_0 rfl ⟨Nat.le_of_ble_eq_true rfl, Nat.le_of_ble_eq_true rfl⟩ (Nat.le_of_ble_eq_true rfl) rfl ?_
  refine st_if_eq (t := 14) h dX11_most_5 (by decide) (fun q1 => ?_) (fun q1 => ?_)
  · have hF := pI q1 hF
    refine st_aload_0 h dX11_most_14 ?_
    refine gX11_2 h fl_X11_23 dX11_most_15 (congrArg Prod.fst kC_0) ?_
    refine st_aload_0 h dX11_most_18 ?_
    obtain ⟨x2, hx2, hF⟩ := bI hF
    refine gX11_11 h fl_X11_83 dX11_most_19 hx2 ?_
    obtain ⟨x3, hx3, hF⟩ := bI hF
    refine st_cVi (vs := [.ref x2]) (st := []) h (w_X10_allowed hx3) mi_X10_allowed mv_X10_allowed ml_X11_156 dX11_most_22 kC_3 rfl ⟨Nat.le_of_ble_eq_true rfl, Nat.le_of_ble_eq_true rfl⟩ (Nat.le_of_ble_eq_true rfl) rfl ?_
    refine st_istore_2 h dX11_most_25 ?_
    refine st_bipush (v := 20) h dX11_most_26 (by decide) ?_
    refine st_istore_3 h dX11_most_28 ?_
    exact st_sub (ls_s (ls_s (ls_s (ls_s ls_e)))) (w_X11_most_29 h hr FU σ i1 x3 20 z hF)
  · have hF := qI q1 hF
    refine st_aload_0 h dX11_most_8 ?_
    refine st_ic_1 h dX11_most_9 ?_
    obtain ⟨x4, hx4, hF⟩ := bI hF
    refine st_cVi (vs := [.int 1]) (st := []) h (w_X11_refuse hx4) mi_X11_refuse mv_X11_refuse ml_X11_99 dX11_most_10 kC_0 rfl ⟨Nat.le_of_ble_eq_true rfl, Nat.le_of_ble_eq_true rfl⟩ (Nat.le_of_ble_eq_true rfl) rfl ?_
    cases hF
    exact st_iret h hr dX11_most_13
set_option maxRecDepth 100000 in
set_option maxHeartbeats 4000000 in
theorem w_X9_freePrice_4 {p : Program} {l : Launch} {e : Env} {s : State} {m : MethodId} {args : Array Value} {below : List Frame} {meth : Method} {c : Code} {G : Gv} (h : Cx p s m args meth c G cX9_freePrice 4 RX9) (hr : meth.sig.returnType = (some .int)) : ∀ (n : Nat) (σ : Sto) (a0 : Nat) (i1 : Int32) (i2 : Int32) (i3 : Int32) (z : Int32), F_X9_freePrice_4 n σ a0 i1 i2 i3 = some z → AW p l e (rmD 1 0 0) s m args below meth c (MQ below (QcR G shC νC (some (.int z)) (ovC σ)) args s 0 0 (gA G)) 0 0 G 4 4 [some (.ref a0), some (.int i1), some (.int i2), some (.int i3)] [] shC νC (ovC σ) := by
  intro n
  induction n with
  | zero => intro σ a0 i1 i2 i3 z hF; cases hF
  | succ n ih =>
    intro σ a0 i1 i2 i3 z hF
    rw [F_X9_freePrice_4] at hF
    refine st_iload_3 h dX9_freePrice_4 ?_
    refine st_bipush (v := 20) h dX9_freePrice_5 (by decide) ?_
    refine st_icmp_gt (t := 43) h dX9_freePrice_7 (by decide) (fun q1 => ?_) (fun q1 => ?_)
    · have hF := pI q1 hF
      refine st_iload_2 h dX9_freePrice_43 ?_
      cases hF
      exact st_iret h hr dX9_freePrice_44
    · have hF := qI q1 hF
      refine st_aload_0 h dX9_freePrice_10 ?_
      obtain ⟨g1, hF⟩ := gI hF
      refine gX9_7 h fl_X9_28 dX9_freePrice_11 g1 ?_
      refine st_iload_1 h dX9_freePrice_14 ?_
      refine st_bipush (v := 21) h dX9_freePrice_15 (by decide) ?_
      refine st_imul h dX9_freePrice_17 ?_
      refine st_iload_3 h dX9_freePrice_18 ?_
      refine st_iadd h dX9_freePrice_19 ?_
      obtain ⟨g2, hF⟩ := gI hF
      refine iaC h dX9_freePrice_20 (sk_9_7 g1) g2 ?_
      refine st_aload_0 h dX9_freePrice_21 ?_
      refine gX9_7 h fl_X9_28 dX9_freePrice_22 g1 ?_
      refine st_iload_1 h dX9_freePrice_25 ?_
      refine st_bipush (v := 21) h dX9_freePrice_26 (by decide) ?_
      refine st_imul h dX9_freePrice_28 ?_
      refine st_iload_2 h dX9_freePrice_29 ?_
      refine st_iadd h dX9_freePrice_30 ?_
      obtain ⟨g3, hF⟩ := gI hF
      refine iaC h dX9_freePrice_31 (sk_9_7 g1) g3 ?_
      refine st_icmp_le (t := 37) h dX9_freePrice_32 (by decide) (fun q2 => ?_) (fun q2 => ?_)
      · have hF := pI q2 hF
        refine st_iinc_3 (y := i3 + 1) h dX9_freePrice_37 (ii_1 _) ?_
        refine st_goto (t := 4) h dX9_freePrice_40 (by decide) ?_
        exact st_sub (ls_s (ls_s (ls_s (ls_s ls_e)))) (ih σ a0 i1 i2 (i3 + 1) z hF)
      · have hF := qI q2 hF
        refine st_iload_3 h dX9_freePrice_35 ?_
        refine st_istore_2 h dX9_freePrice_36 ?_
        refine st_iinc_3 (y := i3 + 1) h dX9_freePrice_37 (ii_1 _) ?_
        refine st_goto (t := 4) h dX9_freePrice_40 (by decide) ?_
        exact st_sub (ls_s (ls_s (ls_s (ls_s ls_e)))) (ih σ a0 i1 i3 (i3 + 1) z hF)
set_option maxRecDepth 100000 in
set_option maxHeartbeats 4000000 in
theorem w_X9_freePrice {l : Launch} {G : Gv} {σ : Sto} {a0 : Nat} {i1 : Int32} {z : Int32} (hF : F_X9_freePrice σ a0 i1 = some z) : Con l yX9_freePrice cX9_freePrice 4 (some .int) 1 G shC νC [.ref a0, .int i1] (ovC σ) (some (.int z)) (ovC σ) := by
  rw [F_X9_freePrice] at hF
  refine Con_enter (own := RX9) 2 (lv := [some (.ref a0), some (.int i1), none, none]) mi_X9_freePrice.2.2.2 rfl (Nat.le_of_ble_eq_true rfl) rfl (fun h hr hin => ?_)
  refine st_ic_0 h dX9_freePrice_0 ?_
  refine st_istore_2 h dX9_freePrice_1 ?_
  refine st_ic_1 h dX9_freePrice_2 ?_
  refine st_istore_3 h dX9_freePrice_3 ?_
  exact st_sub (ls_s (ls_s (ls_s (ls_s ls_e)))) (w_X9_freePrice_4 h hr FU σ a0 i1 0 1 z hF)
set_option maxRecDepth 100000 in
set_option maxHeartbeats 4000000 in
theorem w_X11_free {l : Launch} {G : Gv} {σ : Sto} {i1 : Int32} {z : (Int32 × Sto)} (hF : F_X11_free σ i1 = some z) : Con l yX11_free cX11_free 2 (some .int) 2 G shC νC [.ref 0, .int i1] (ovC σ) (some (.int z.1)) (ovC z.2) := by
  rw [F_X11_free] at hF
  refine Con_enter (own := RX11) 0 (lv := [some (.ref 0), some (.int i1)]) mi_X11_free.2.2.2 rfl (Nat.le_of_ble_eq_true rfl) rfl (fun h hr hin => ?_)
  refine st_aload_0 h dX11_free_0 ?_
  refine st_iload_1 h dX11_free_1 ?_
  obtain ⟨x1, hx1, hF⟩ := bI hF
  refine st_cVi (vs := [.int i1]) (st := []) h (w_X11_noService hx1) mi_X11_noService mv_X11_noService ml_X11_176 dX11_free_2 kC_0 rfl ⟨Nat.le_of_ble_eq_true rfl, Nat.le_of_ble_eq_true rfl⟩ (Nat.le_of_ble_eq_true rfl) rfl ?_
  refine st_if_eq (t := 14) h dX11_free_5 (by decide) (fun q1 => ?_) (fun q1 => ?_)
  · have hF := pI q1 hF
    refine st_aload_0 h dX11_free_14 ?_
    refine st_aload_0 h dX11_free_15 ?_
    obtain ⟨x2, hx2, hF⟩ := bI hF
    refine gX11_11 h fl_X11_83 dX11_free_16 hx2 ?_
    refine st_iload_1 h dX11_free_19 ?_
    obtain ⟨g1, hF⟩ := gI hF
    obtain ⟨x3, hx3, hF⟩ := bI hF
    refine st_cVi (vs := [.int i1]) (st := [.ref 0]) h (w_X9_freePrice hx3) mi_X9_freePrice mv_X9_freePrice ml_X11_217 dX11_free_20 (shC_e g1) rfl ⟨Nat.le_of_ble_eq_true rfl, Nat.le_of_ble_eq_true rfl⟩ (Nat.le_of_ble_eq_true rfl) rfl ?_
    obtain ⟨x4, hx4, hF⟩ := bI hF
    refine st_cVi (vs := [.int x3]) (st := []) h (w_X11_answer hx4) mi_X11_answer mv_X11_answer ml_X11_125 dX11_free_23 kC_0 rfl ⟨Nat.le_of_ble_eq_true rfl, Nat.le_of_ble_eq_true rfl⟩ (Nat.le_of_ble_eq_true rfl) rfl ?_
    cases hF
    exact st_iret h hr dX11_free_26
  · have hF := qI q1 hF
    refine st_aload_0 h dX11_free_8 ?_
    refine st_ic_1 h dX11_free_9 ?_
    obtain ⟨x5, hx5, hF⟩ := bI hF
    refine st_cVi (vs := [.int 1]) (st := []) h (w_X11_refuse hx5) mi_X11_refuse mv_X11_refuse ml_X11_99 dX11_free_10 kC_0 rfl ⟨Nat.le_of_ble_eq_true rfl, Nat.le_of_ble_eq_true rfl⟩ (Nat.le_of_ble_eq_true rfl) rfl ?_
    cases hF
    exact st_iret h hr dX11_free_13
set_option maxRecDepth 100000 in
set_option maxHeartbeats 4000000 in
theorem w_X11_worthOf_N1 {l : Launch} {G : Gv} {σ : Sto} {z : (Int32 × Sto)} (hF : F_X11_worthOf_N1 σ  = some z) : Con l yX11_worthOf cX11_worthOf 2 (some .int) 2 G shC νC [.ref 0, .null] (ovC σ) (some (.int z.1)) (ovC z.2) := by
  rw [F_X11_worthOf_N1] at hF
  refine Con_enter (own := RX11) 0 (lv := [some (.ref 0), some (.null)]) mi_X11_worthOf.2.2.2 rfl (Nat.le_of_ble_eq_true rfl) rfl (fun h hr hin => ?_)
  refine st_zload_1 h dX11_worthOf_0 ?_
  refine st_ifnonnullN h dX11_worthOf_1 ?_
  refine st_aload_0 h dX11_worthOf_4 ?_
  refine st_ic_1 h dX11_worthOf_5 ?_
  obtain ⟨x1, hx1, hF⟩ := bI hF
  refine st_cVi (vs := [.int 1]) (st := []) h (w_X11_refuse hx1) mi_X11_refuse mv_X11_refuse ml_X11_99 dX11_worthOf_6 kC_0 rfl ⟨Nat.le_of_ble_eq_true rfl, Nat.le_of_ble_eq_true rfl⟩ (Nat.le_of_ble_eq_true rfl) rfl ?_
  refine st_goto (t := 20) h dX11_worthOf_9 (by decide) ?_
  cases hF
  exact st_iret h hr dX11_worthOf_20
set_option maxRecDepth 100000 in
set_option maxHeartbeats 4000000 in
theorem w_X8_begin_18 {p : Program} {l : Launch} {e : Env} {s : State} {m : MethodId} {args : Array Value} {below : List Frame} {meth : Method} {c : Code} {G : Gv} (h : Cx p s m args meth c G cX8_begin 5 RX8) (hr : meth.sig.returnType = none) : ∀ (n : Nat) (σ : Sto) (a1 : Nat) (a2 : Nat) (i3 : Int32) (i4 : Int32) (z : Sto), F_X8_begin_18 n σ a1 a2 i3 i4 = some z → AW p l e (rmD 5 0 0) s m args below meth c (MQ below (QcR G shC νC none (ovC z)) args s 0 0 (gA G)) 0 0 G 5 18 [some (.ref 63), some (.ref a1), some (.ref a2), some (.int i3), some (.int i4)] [] shC νC (ovC σ) := by
  intro n
  induction n with
  | zero => intro σ a1 a2 i3 i4 z hF; cases hF
  | succ n ih =>
    intro σ a1 a2 i3 i4 z hF
    rw [F_X8_begin_18] at hF
    refine st_iload_4 h dX8_begin_18 ?_
    refine st_aload_0 h dX8_begin_20 ?_
    refine gX8_0 h fl_X8_51 dX8_begin_21 (congrArg Prod.fst kC_63) ?_
    refine st_icmp_ge (t := 77) h dX8_begin_24 (by decide) (fun q1 => ?_) (fun q1 => ?_)
    · have hF := pI q1 hF
      refine st_aload_0 h dX8_begin_77 ?_
      refine gX8_3 h fl_X8_15 dX8_begin_78 (congrArg Prod.fst kC_63) ?_
      refine st_ic_0 h dX8_begin_81 ?_
      refine st_aload_2 h dX8_begin_82 ?_
      refine st_aload_1 h dX8_begin_83 ?_
      obtain ⟨g1, hF⟩ := gI hF
      obtain ⟨x1, hx1, hF⟩ := bI hF
      refine st_cVi (vs := [.ref a1]) (st := [.int 0, .ref 65]) h (w_X10_allowed hx1) mi_X10_allowed mv_X10_allowed ml_X8_61 dX8_begin_84 (shC_e g1) rfl ⟨Nat.le_of_ble_eq_true rfl, Nat.le_of_ble_eq_true rfl⟩ (Nat.le_of_ble_eq_true rfl) rfl ?_
      refine st_iload_3 h dX8_begin_87 ?_
      refine st_min h ml_X8_65 mt_min.1 mt_min.2.1 mt_min.2.2 dX8_begin_88 ⟨Nat.le_of_ble_eq_true rfl, Nat.le_of_ble_eq_true rfl⟩ (Nat.le_of_ble_eq_true rfl) ⟨Nat.zero_le _, Nat.zero_le _⟩ ?_
      obtain ⟨s1, hs1, hF⟩ := swI hF
      refine isC h dX8_begin_91 kC_65 (by decide) hs1 ?_
      cases hF
      exact st_vret h hr dX8_begin_92
    · have hF := qI q1 hF
      refine st_aload_0 h dX8_begin_27 ?_
      refine gX8_2 h fl_X8_11 dX8_begin_28 (congrArg Prod.fst kC_63) ?_
      refine st_iload_4 h dX8_begin_31 ?_
      refine st_aload_2 h dX8_begin_33 ?_
      refine st_aload_1 h dX8_begin_34 ?_
      refine st_iload_4 h dX8_begin_35 ?_
      obtain ⟨g2, hF⟩ := gI hF
      obtain ⟨x2, hx2, hF⟩ := bI hF
      refine st_cVi (vs := [.ref a1, .int i4]) (st := [.int i4, .ref 64]) h (w_X10_weight hx2) mi_X10_weight mv_X10_weight ml_X8_55 dX8_begin_37 (shC_e g2) rfl ⟨Nat.le_of_ble_eq_true rfl, Nat.le_of_ble_eq_true rfl⟩ (Nat.le_of_ble_eq_true rfl) rfl ?_
      obtain ⟨g3, hF⟩ := gI hF
      obtain ⟨s2, hs2, hF⟩ := swI hF
      refine isC h dX8_begin_40 kC_64 g3 hs2 ?_
      refine st_aload_0 h dX8_begin_41 ?_
      refine gX8_4 h fl_X8_18 dX8_begin_42 (congrArg Prod.fst kC_63) ?_
      refine st_iload_4 h dX8_begin_45 ?_
      refine st_ic_0 h dX8_begin_47 ?_
      obtain ⟨g4, hF⟩ := gI hF
      obtain ⟨s3, hs3, hF⟩ := swI hF
      refine isC h dX8_begin_48 kC_66 g4 hs3 ?_
      refine st_aload_0 h dX8_begin_49 ?_
      refine gX8_5 h fl_X8_21 dX8_begin_50 (congrArg Prod.fst kC_63) ?_
      refine st_iload_4 h dX8_begin_53 ?_
      refine st_bipush (v := 20) h dX8_begin_55 (by decide) ?_
      obtain ⟨s4, hs4, hF⟩ := swI hF
      refine isC h dX8_begin_57 kC_67 g4 hs4 ?_
      refine st_iload_3 h dX8_begin_58 ?_
      refine st_aload_0 h dX8_begin_59 ?_
      refine gX8_2 h fl_X8_11 dX8_begin_60 (congrArg Prod.fst kC_63) ?_
      refine st_iload_4 h dX8_begin_63 ?_
      refine iaC h dX8_begin_65 kC_64 g3 ?_
      refine st_bipush (v := 20) h dX8_begin_66 (by decide) ?_
      refine st_imul h dX8_begin_68 ?_
      refine st_iadd h dX8_begin_69 ?_
      obtain ⟨v1, hv1, hF⟩ := swI hF
      refine st_nmi hv1 ?_
      refine st_istore_3 h dX8_begin_70 ?_
      refine st_iinc_4 (y := i4 + 1) h dX8_begin_71 (ii_1 _) ?_
      refine st_goto (t := 18) h dX8_begin_74 (by decide) ?_
      exact st_sub (ls_s (ls_s (ls_s (ls_s (ls_s ls_e))))) (ih s4 a1 a2 v1 (i4 + 1) z hF)
set_option maxRecDepth 100000 in
set_option maxHeartbeats 4000000 in
theorem w_X8_begin {l : Launch} {G : Gv} {σ : Sto} {a1 : Nat} {a2 : Nat} {z : Sto} (hF : F_X8_begin σ a1 a2 = some z) : Con l yX8_begin cX8_begin 5 none 5 G shC νC [.ref 63, .ref a1, .ref a2] (ovC σ) none (ovC z) := by
  rw [F_X8_begin] at hF
  refine Con_enter (own := RX8) 2 (lv := [some (.ref 63), some (.ref a1), some (.ref a2), none, none]) mi_X8_begin.2.2.2 rfl (Nat.le_of_ble_eq_true rfl) rfl (fun h hr hin => ?_)
  refine st_aload_0 h dX8_begin_0 ?_
  refine st_aload_1 h dX8_begin_1 ?_
  obtain ⟨g1, hF⟩ := gI hF
  refine gX9_0 h fl_X8_45 dX8_begin_2 g1 ?_
  obtain ⟨s1, hs1, hF⟩ := swI hF
  refine pX8_0 h fl_X8_51 dX8_begin_5 (congrArg Prod.fst kC_63) hs1 ?_
  refine st_aload_0 h dX8_begin_8 ?_
  refine st_ic_1 h dX8_begin_9 ?_
  obtain ⟨s2, hs2, hF⟩ := swI hF
  refine pX8_1 h fl_X8_52 dX8_begin_10 (congrArg Prod.fst kC_63) hs2 ?_
  refine st_ic_0 h dX8_begin_13 ?_
  refine st_istore_3 h dX8_begin_14 ?_
  refine st_ic_0 h dX8_begin_15 ?_
  refine st_istore_4 h dX8_begin_16 ?_
  exact st_sub (ls_s (ls_s (ls_s (ls_s (ls_s ls_e))))) (w_X8_begin_18 h hr FU s2 a1 a2 0 0 z hF)
set_option maxRecDepth 100000 in
set_option maxHeartbeats 4000000 in
theorem w_X8_takeLowest_14 {p : Program} {l : Launch} {e : Env} {s : State} {m : MethodId} {args : Array Value} {below : List Frame} {meth : Method} {c : Code} {G : Gv} (h : Cx p s m args meth c G cX8_takeLowest 4 RX8) (hr : meth.sig.returnType = (some .boolean)) {k4 : Sto → Int32 → Int32 → Option (Int32 × Sto)} (H4 : ∀ (σ : Sto) (i1 : Int32) (i2 : Int32) (z : (Int32 × Sto)), k4 σ i1 i2 = some z → AW p l e (rmD 1 0 0) s m args below meth c (MQ below (QcR G shC νC (some (.int z.1)) (ovC z.2)) args s 0 0 (gA G)) 0 0 G 4 4 [some (.ref 63), some (.int i1), some (.int i2), none] [] shC νC (ovC σ)) : ∀ (n : Nat) (σ : Sto) (i1 : Int32) (i2 : Int32) (i3 : Int32) (z : (Int32 × Sto)), F_X8_takeLowest_14 k4 n σ i1 i2 i3 = some z → AW p l e (rmD 1 0 0) s m args below meth c (MQ below (QcR G shC νC (some (.int z.1)) (ovC z.2)) args s 0 0 (gA G)) 0 0 G 4 14 [some (.ref 63), some (.int i1), some (.int i2), some (.int i3)] [] shC νC (ovC σ) := by
  intro n
  induction n with
  | zero => intro σ i1 i2 i3 z hF; cases hF
  | succ n ih =>
    intro σ i1 i2 i3 z hF
    rw [F_X8_takeLowest_14] at hF
    refine st_iload_3 h dX8_takeLowest_14 ?_
    refine st_aload_0 h dX8_takeLowest_15 ?_
    refine gX8_0 h fl_X8_51 dX8_takeLowest_16 (congrArg Prod.fst kC_63) ?_
    refine st_icmp_ge (t := 54) h dX8_takeLowest_19 (by decide) (fun q1 => ?_) (fun q1 => ?_)
    · have hF := pI q1 hF
      refine st_iload_1 h dX8_takeLowest_54 ?_
      refine st_if_eq (t := 71) h dX8_takeLowest_55 (by decide) (fun q2 => ?_) (fun q2 => ?_)
      · have hF := pI q2 hF
        refine st_ic_0 h dX8_takeLowest_71 ?_
        refine st_istore_1 h dX8_takeLowest_72 ?_
        refine st_iinc_2 (y := i2 + 1) h dX8_takeLowest_73 (ii_1 _) ?_
        refine st_goto (t := 4) h dX8_takeLowest_76 (by decide) ?_
        exact st_sub (ls_s (ls_s (ls_s (ls_n ls_e)))) (H4 σ 0 (i2 + 1) z hF)
      · have hF := qI q2 hF
        refine st_aload_0 h dX8_takeLowest_58 ?_
        refine gX8_3 h fl_X8_15 dX8_takeLowest_59 (congrArg Prod.fst kC_63) ?_
        refine st_iload_2 h dX8_takeLowest_62 ?_
        obtain ⟨g1, hF⟩ := gI hF
        refine iaC h dX8_takeLowest_63 kC_65 g1 ?_
        refine st_if_lt (t := 71) h dX8_takeLowest_64 (by decide) (fun q3 => ?_) (fun q3 => ?_)
        · have hF := pI q3 hF
          refine st_ic_0 h dX8_takeLowest_71 ?_
          refine st_istore_1 h dX8_takeLowest_72 ?_
          refine st_iinc_2 (y := i2 + 1) h dX8_takeLowest_73 (ii_1 _) ?_
          refine st_goto (t := 4) h dX8_takeLowest_76 (by decide) ?_
          exact st_sub (ls_s (ls_s (ls_s (ls_n ls_e)))) (H4 σ 0 (i2 + 1) z hF)
        · have hF := qI q3 hF
          refine st_ic_1 h dX8_takeLowest_67 ?_
          refine st_goto (t := 72) h dX8_takeLowest_68 (by decide) ?_
          refine st_istore_1 h dX8_takeLowest_72 ?_
          refine st_iinc_2 (y := i2 + 1) h dX8_takeLowest_73 (ii_1 _) ?_
          refine st_goto (t := 4) h dX8_takeLowest_76 (by decide) ?_
          exact st_sub (ls_s (ls_s (ls_s (ls_n ls_e)))) (H4 σ 1 (i2 + 1) z hF)
    · have hF := qI q1 hF
      refine st_aload_0 h dX8_takeLowest_22 ?_
      refine gX8_3 h fl_X8_15 dX8_takeLowest_23 (congrArg Prod.fst kC_63) ?_
      refine st_iload_2 h dX8_takeLowest_26 ?_
      refine st_dup2 h rfl rfl dX8_takeLowest_27 ?_
      obtain ⟨g2, hF⟩ := gI hF
      refine iaC h dX8_takeLowest_28 kC_65 g2 ?_
      refine st_aload_0 h dX8_takeLowest_29 ?_
      refine gX8_2 h fl_X8_11 dX8_takeLowest_30 (congrArg Prod.fst kC_63) ?_
      refine st_iload_2 h dX8_takeLowest_33 ?_
      refine st_ic_4 h dX8_takeLowest_34 ?_
      refine st_imul h dX8_takeLowest_35 ?_
      refine st_iload_3 h dX8_takeLowest_36 ?_
      refine st_iadd h dX8_takeLowest_37 ?_
      obtain ⟨g3, hF⟩ := gI hF
      refine iaC h dX8_takeLowest_38 kC_64 g3 ?_
      refine st_aload_0 h dX8_takeLowest_39 ?_
      refine gX8_4 h fl_X8_18 dX8_takeLowest_40 (congrArg Prod.fst kC_63) ?_
      refine st_iload_3 h dX8_takeLowest_43 ?_
      obtain ⟨g4, hF⟩ := gI hF
      refine iaC h dX8_takeLowest_44 kC_66 g4 ?_
      refine st_imul h dX8_takeLowest_45 ?_
      refine st_isub h dX8_takeLowest_46 ?_
      obtain ⟨s1, hs1, hF⟩ := swI hF
      refine isC h dX8_takeLowest_47 kC_65 g2 hs1 ?_
      refine st_iinc_3 (y := i3 + 1) h dX8_takeLowest_48 (ii_1 _) ?_
      refine st_goto (t := 14) h dX8_takeLowest_51 (by decide) ?_
      exact st_sub (ls_s (ls_s (ls_s (ls_s ls_e)))) (ih s1 i1 i2 (i3 + 1) z hF)
set_option maxRecDepth 100000 in
set_option maxHeartbeats 4000000 in
theorem w_X8_takeLowest_4 {p : Program} {l : Launch} {e : Env} {s : State} {m : MethodId} {args : Array Value} {below : List Frame} {meth : Method} {c : Code} {G : Gv} (h : Cx p s m args meth c G cX8_takeLowest 4 RX8) (hr : meth.sig.returnType = (some .boolean)) : ∀ (n : Nat) (σ : Sto) (i1 : Int32) (i2 : Int32) (z : (Int32 × Sto)), F_X8_takeLowest_4 n σ i1 i2 = some z → AW p l e (rmD 1 0 0) s m args below meth c (MQ below (QcR G shC νC (some (.int z.1)) (ovC z.2)) args s 0 0 (gA G)) 0 0 G 4 4 [some (.ref 63), some (.int i1), some (.int i2), none] [] shC νC (ovC σ) := by
  intro n
  induction n with
  | zero => intro σ i1 i2 z hF; cases hF
  | succ n ih =>
    intro σ i1 i2 z hF
    rw [F_X8_takeLowest_4] at hF
    refine st_iload_2 h dX8_takeLowest_4 ?_
    refine st_aload_0 h dX8_takeLowest_5 ?_
    refine gX8_1 h fl_X8_52 dX8_takeLowest_6 (congrArg Prod.fst kC_63) ?_
    refine st_icmp_ge (t := 79) h dX8_takeLowest_9 (by decide) (fun q1 => ?_) (fun q1 => ?_)
    · have hF := pI q1 hF
      refine st_iload_1 h dX8_takeLowest_79 ?_
      obtain ⟨g1, hF⟩ := gI hF
      cases hF
      exact st_zret h hr g1 dX8_takeLowest_80
    · have hF := qI q1 hF
      refine st_ic_0 h dX8_takeLowest_12 ?_
      refine st_istore_3 h dX8_takeLowest_13 ?_
      exact st_sub (ls_s (ls_s (ls_s (ls_s ls_e)))) (w_X8_takeLowest_14 h hr ih FU σ i1 i2 0 z hF)
set_option maxRecDepth 100000 in
set_option maxHeartbeats 4000000 in
theorem w_X8_takeLowest {l : Launch} {G : Gv} {σ : Sto} {z : (Int32 × Sto)} (hF : F_X8_takeLowest σ  = some z) : Con l yX8_takeLowest cX8_takeLowest 4 (some .boolean) 1 G shC νC [.ref 63] (ovC σ) (some (.int z.1)) (ovC z.2) := by
  rw [F_X8_takeLowest] at hF
  refine Con_enter (own := RX8) 3 (lv := [some (.ref 63), none, none, none]) mi_X8_takeLowest.2.2.2 rfl (Nat.le_of_ble_eq_true rfl) rfl (fun h hr hin => ?_)
  refine st_ic_1 h dX8_takeLowest_0 ?_
  refine st_istore_1 h dX8_takeLowest_1 ?_
  refine st_ic_0 h dX8_takeLowest_2 ?_
  refine st_istore_2 h dX8_takeLowest_3 ?_
  exact st_sub (ls_s (ls_s (ls_s (ls_n ls_e)))) (w_X8_takeLowest_4 h hr FU σ 1 0 z hF)
set_option maxRecDepth 100000 in
set_option maxHeartbeats 4000000 in
theorem w_X8_chooseAt_76 {p : Program} {l : Launch} {e : Env} {s : State} {m : MethodId} {args : Array Value} {below : List Frame} {meth : Method} {c : Code} {G : Gv} (h : Cx p s m args meth c G cX8_chooseAt 10 RX8) (hr : meth.sig.returnType = (some .int)) {k24 : Sto → Int32 → Int32 → Option (Int32 × Sto)} (H24 : ∀ (σ : Sto) (i2 : Int32) (i3 : Int32) (z : (Int32 × Sto)), k24 σ i2 i3 = some z → AW p l e (rmD 1 0 0) s m args below meth c (MQ below (QcR G shC νC (some (.int z.1)) (ovC z.2)) args s 0 0 (gA G)) 0 0 G 10 24 [some (.ref 63), none, some (.int i2), some (.int i3), none, none, none, none, none, none] [] shC νC (ovC σ)) : ∀ (n : Nat) (σ : Sto) (i2 : Int32) (i3 : Int32) (i4 : Int32) (i5 : Int32) (i6 : Int32) (i7 : Int32) (i8 : Int32) (z : (Int32 × Sto)), F_X8_chooseAt_76 k24 n σ i2 i3 i4 i5 i6 i7 i8 = some z → AW p l e (rmD 1 0 0) s m args below meth c (MQ below (QcR G shC νC (some (.int z.1)) (ovC z.2)) args s 0 0 (gA G)) 0 0 G 10 76 [some (.ref 63), none, some (.int i2), some (.int i3), some (.int i4), some (.int i5), some (.int i6), some (.int i7), some (.int i8), none] [] shC νC (ovC σ) := by
  intro n
  induction n with
  | zero => intro σ i2 i3 i4 i5 i6 i7 i8 z hF; cases hF
  | succ n ih =>
    intro σ i2 i3 i4 i5 i6 i7 i8 z hF
    rw [F_X8_chooseAt_76] at hF
    refine st_iload_8 h dX8_chooseAt_76 ?_
    refine st_aload_0 h dX8_chooseAt_78 ?_
    refine gX8_6 h fl_X8_24 dX8_chooseAt_79 (congrArg Prod.fst kC_63) ?_
    refine st_iload_3 h dX8_chooseAt_82 ?_
    obtain ⟨g1, hF⟩ := gI hF
    refine iaC h dX8_chooseAt_83 kC_68 g1 ?_
    refine st_icmp_ge (t := 137) h dX8_chooseAt_84 (by decide) (fun q1 => ?_) (fun q1 => ?_)
    · have hF := pI q1 hF
      refine st_aload_0 h dX8_chooseAt_137 ?_
      refine gX8_10 h fl_X8_36 dX8_chooseAt_138 (congrArg Prod.fst kC_63) ?_
      refine st_iload_3 h dX8_chooseAt_141 ?_
      refine st_iload_6 h dX8_chooseAt_142 ?_
      obtain ⟨s1, hs1, hF⟩ := swI hF
      refine isC h dX8_chooseAt_144 kC_72 g1 hs1 ?_
      refine st_aload_0 h dX8_chooseAt_145 ?_
      refine gX8_12 h fl_X8_42 dX8_chooseAt_146 (congrArg Prod.fst kC_63) ?_
      refine st_iload_3 h dX8_chooseAt_149 ?_
      refine st_aload_0 h dX8_chooseAt_150 ?_
      refine gX8_12 h fl_X8_42 dX8_chooseAt_151 (congrArg Prod.fst kC_63) ?_
      refine st_iload_3 h dX8_chooseAt_154 ?_
      refine st_ic_1 h dX8_chooseAt_155 ?_
      refine st_iadd h dX8_chooseAt_156 ?_
      obtain ⟨g2, hF⟩ := gI hF
      refine iaC h dX8_chooseAt_157 kC_74 g2 ?_
      refine st_iload_7 h dX8_chooseAt_158 ?_
      refine st_iadd h dX8_chooseAt_160 ?_
      obtain ⟨g3, hF⟩ := gI hF
      obtain ⟨s2, hs2, hF⟩ := swI hF
      refine isC h dX8_chooseAt_161 kC_74 g3 hs2 ?_
      refine st_iload_2 h dX8_chooseAt_162 ?_
      refine st_aload_0 h dX8_chooseAt_163 ?_
      refine gX8_2 h fl_X8_11 dX8_chooseAt_164 (congrArg Prod.fst kC_63) ?_
      refine st_iload_3 h dX8_chooseAt_167 ?_
      obtain ⟨g4, hF⟩ := gI hF
      refine iaC h dX8_chooseAt_168 kC_64 g4 ?_
      refine st_aload_0 h dX8_chooseAt_169 ?_
      refine gX8_7 h fl_X8_27 dX8_chooseAt_170 (congrArg Prod.fst kC_63) ?_
      refine st_iload_4 h dX8_chooseAt_173 ?_
      refine st_iload_6 h dX8_chooseAt_175 ?_
      refine st_iadd h dX8_chooseAt_177 ?_
      obtain ⟨g5, hF⟩ := gI hF
      refine iaC h dX8_chooseAt_178 kC_69 g5 ?_
      refine st_imul h dX8_chooseAt_179 ?_
      refine st_iadd h dX8_chooseAt_180 ?_
      obtain ⟨v1, hv1, hF⟩ := swI hF
      refine st_nmi hv1 ?_
      refine st_istore_2 h dX8_chooseAt_181 ?_
      refine st_iinc_3 (y := i3 + (-1)) h dX8_chooseAt_182 (ii_m1 _) ?_
      refine st_goto (t := 24) h dX8_chooseAt_185 (by decide) ?_
      exact st_sub (ls_s (ls_n (ls_s (ls_s (ls_n (ls_n (ls_n (ls_n (ls_n (ls_n ls_e)))))))))) (H24 s2 v1 (i3 + (-1)) z hF)
    · have hF := qI q1 hF
      refine st_aload_0 h dX8_chooseAt_87 ?_
      refine gX8_8 h fl_X8_30 dX8_chooseAt_88 (congrArg Prod.fst kC_63) ?_
      refine st_iload_4 h dX8_chooseAt_91 ?_
      refine st_iload_8 h dX8_chooseAt_93 ?_
      refine st_iadd h dX8_chooseAt_95 ?_
      obtain ⟨g6, hF⟩ := gI hF
      refine iaC h dX8_chooseAt_96 kC_70 g6 ?_
      refine st_bipush (v := 8) h dX8_chooseAt_97 (by decide) ?_
      refine st_ishl h dX8_chooseAt_99 ?_
      refine st_iload_5 h dX8_chooseAt_100 ?_
      refine st_aload_0 h dX8_chooseAt_102 ?_
      refine gX8_7 h fl_X8_27 dX8_chooseAt_103 (congrArg Prod.fst kC_63) ?_
      refine st_iload_4 h dX8_chooseAt_106 ?_
      refine st_iload_8 h dX8_chooseAt_108 ?_
      refine st_iadd h dX8_chooseAt_110 ?_
      refine iaC h dX8_chooseAt_111 kC_69 g6 ?_
      refine st_imul h dX8_chooseAt_112 ?_
      refine st_isub h dX8_chooseAt_113 ?_
      obtain ⟨v2, hv2, hF⟩ := swI hF
      refine st_nmi hv2 ?_
      refine st_istore_9 h dX8_chooseAt_114 ?_
      refine st_iload_9 h dX8_chooseAt_116 ?_
      refine st_iload_7 h dX8_chooseAt_118 ?_
      refine st_icmp_le (t := 131) h dX8_chooseAt_120 (by decide) (fun q2 => ?_) (fun q2 => ?_)
      · have hF := pI q2 hF
        refine st_iinc_8 (y := i8 + 1) h dX8_chooseAt_131 (ii_1 _) ?_
        refine st_goto (t := 76) h dX8_chooseAt_134 (by decide) ?_
        exact st_sub (ls_s (ls_n (ls_s (ls_s (ls_s (ls_s (ls_s (ls_s (ls_s (ls_n ls_e)))))))))) (ih σ i2 i3 i4 i5 i6 i7 (i8 + 1) z hF)
      · have hF := qI q2 hF
        refine st_iload_9 h dX8_chooseAt_123 ?_
        refine st_istore_7 h dX8_chooseAt_125 ?_
        refine st_iload_8 h dX8_chooseAt_127 ?_
        refine st_istore_6 h dX8_chooseAt_129 ?_
        refine st_iinc_8 (y := i8 + 1) h dX8_chooseAt_131 (ii_1 _) ?_
        refine st_goto (t := 76) h dX8_chooseAt_134 (by decide) ?_
        exact st_sub (ls_s (ls_n (ls_s (ls_s (ls_s (ls_s (ls_s (ls_s (ls_s (ls_n ls_e)))))))))) (ih σ i2 i3 i4 i5 i8 v2 (i8 + 1) z hF)
set_option maxRecDepth 100000 in
set_option maxHeartbeats 4000000 in
theorem w_X8_chooseAt_24 {p : Program} {l : Launch} {e : Env} {s : State} {m : MethodId} {args : Array Value} {below : List Frame} {meth : Method} {c : Code} {G : Gv} (h : Cx p s m args meth c G cX8_chooseAt 10 RX8) (hr : meth.sig.returnType = (some .int)) : ∀ (n : Nat) (σ : Sto) (i2 : Int32) (i3 : Int32) (z : (Int32 × Sto)), F_X8_chooseAt_24 n σ i2 i3 = some z → AW p l e (rmD 1 0 0) s m args below meth c (MQ below (QcR G shC νC (some (.int z.1)) (ovC z.2)) args s 0 0 (gA G)) 0 0 G 10 24 [some (.ref 63), none, some (.int i2), some (.int i3), none, none, none, none, none, none] [] shC νC (ovC σ) := by
  intro n
  induction n with
  | zero => intro σ i2 i3 z hF; cases hF
  | succ n ih =>
    intro σ i2 i3 z hF
    rw [F_X8_chooseAt_24] at hF
    refine st_iload_3 h dX8_chooseAt_24 ?_
    refine st_if_lt (t := 188) h dX8_chooseAt_25 (by decide) (fun q1 => ?_) (fun q1 => ?_)
    · have hF := pI q1 hF
      refine st_iload_2 h dX8_chooseAt_188 ?_
      cases hF
      exact st_iret h hr dX8_chooseAt_189
    · have hF := qI q1 hF
      refine st_iload_3 h dX8_chooseAt_28 ?_
      refine st_bipush (v := 21) h dX8_chooseAt_29 (by decide) ?_
      refine st_imul h dX8_chooseAt_31 ?_
      refine st_istore_4 h dX8_chooseAt_32 ?_
      refine st_aload_0 h dX8_chooseAt_34 ?_
      refine gX8_13 h fl_X8_112 dX8_chooseAt_35 (congrArg Prod.fst kC_63) ?_
      refine st_aload_0 h dX8_chooseAt_38 ?_
      refine gX8_2 h fl_X8_11 dX8_chooseAt_39 (congrArg Prod.fst kC_63) ?_
      refine st_iload_3 h dX8_chooseAt_42 ?_
      obtain ⟨g1, hF⟩ := gI hF
      refine iaC h dX8_chooseAt_43 kC_64 g1 ?_
      refine st_imul h dX8_chooseAt_44 ?_
      obtain ⟨v1, hv1, hF⟩ := swI hF
      refine st_nmi hv1 ?_
      refine st_istore_5 h dX8_chooseAt_45 ?_
      refine st_ic_0 h dX8_chooseAt_47 ?_
      refine st_istore_6 h dX8_chooseAt_48 ?_
      refine st_aload_0 h dX8_chooseAt_50 ?_
      refine gX8_8 h fl_X8_30 dX8_chooseAt_51 (congrArg Prod.fst kC_63) ?_
      refine st_iload_4 h dX8_chooseAt_54 ?_
      obtain ⟨g2, hF⟩ := gI hF
      refine iaC h dX8_chooseAt_56 kC_70 g2 ?_
      refine st_bipush (v := 8) h dX8_chooseAt_57 (by decide) ?_
      refine st_ishl h dX8_chooseAt_59 ?_
      refine st_iload_5 h dX8_chooseAt_60 ?_
      refine st_aload_0 h dX8_chooseAt_62 ?_
      refine gX8_7 h fl_X8_27 dX8_chooseAt_63 (congrArg Prod.fst kC_63) ?_
      refine st_iload_4 h dX8_chooseAt_66 ?_
      refine iaC h dX8_chooseAt_68 kC_69 g2 ?_
      refine st_imul h dX8_chooseAt_69 ?_
      refine st_isub h dX8_chooseAt_70 ?_
      obtain ⟨v2, hv2, hF⟩ := swI hF
      refine st_nmi hv2 ?_
      refine st_istore_7 h dX8_chooseAt_71 ?_
      refine st_ic_1 h dX8_chooseAt_73 ?_
      refine st_istore_8 h dX8_chooseAt_74 ?_
      exact st_sub (ls_s (ls_n (ls_s (ls_s (ls_s (ls_s (ls_s (ls_s (ls_s (ls_n ls_e)))))))))) (w_X8_chooseAt_76 h hr ih FU σ i2 i3 (i3 * 21) v1 0 v2 1 z hF)
set_option maxRecDepth 100000 in
set_option maxHeartbeats 4000000 in
theorem w_X8_chooseAt {l : Launch} {G : Gv} {σ : Sto} {i1 : Int32} {z : (Int32 × Sto)} (hF : F_X8_chooseAt σ i1 = some z) : Con l yX8_chooseAt cX8_chooseAt 10 (some .int) 1 G shC νC [.ref 63, .int i1] (ovC σ) (some (.int z.1)) (ovC z.2) := by
  rw [F_X8_chooseAt] at hF
  refine Con_enter (own := RX8) 8 (lv := [some (.ref 63), some (.int i1), none, none, none, none, none, none, none, none]) mi_X8_chooseAt.2.2.2 rfl (Nat.le_of_ble_eq_true rfl) rfl (fun h hr hin => ?_)
  refine st_aload_0 h dX8_chooseAt_0 ?_
  refine st_iload_1 h dX8_chooseAt_1 ?_
  obtain ⟨s1, hs1, hF⟩ := swI hF
  refine pX8_13 h fl_X8_112 dX8_chooseAt_2 (congrArg Prod.fst kC_63) hs1 ?_
  refine st_aload_0 h dX8_chooseAt_5 ?_
  refine gX8_12 h fl_X8_42 dX8_chooseAt_6 (congrArg Prod.fst kC_63) ?_
  refine st_aload_0 h dX8_chooseAt_9 ?_
  refine gX8_0 h fl_X8_51 dX8_chooseAt_10 (congrArg Prod.fst kC_63) ?_
  refine st_ic_0 h dX8_chooseAt_13 ?_
  obtain ⟨g1, hF⟩ := gI hF
  obtain ⟨s2, hs2, hF⟩ := swI hF
  refine isC h dX8_chooseAt_14 kC_74 g1 hs2 ?_
  refine st_ic_0 h dX8_chooseAt_15 ?_
  refine st_istore_2 h dX8_chooseAt_16 ?_
  refine st_aload_0 h dX8_chooseAt_17 ?_
  refine gX8_0 h fl_X8_51 dX8_chooseAt_18 (congrArg Prod.fst kC_63) ?_
  refine st_ic_1 h dX8_chooseAt_21 ?_
  refine st_isub h dX8_chooseAt_22 ?_
  refine st_istore_3 h dX8_chooseAt_23 ?_
  exact st_sub (ls_s (ls_n (ls_s (ls_s (ls_n (ls_n (ls_n (ls_n (ls_n (ls_n ls_e)))))))))) (w_X8_chooseAt_24 h hr FU s2 0 ((s2.1 63 0) - 1) z hF)
set_option maxRecDepth 100000 in
set_option maxHeartbeats 4000000 in
theorem w_X8_setToll_23 {p : Program} {l : Launch} {e : Env} {s : State} {m : MethodId} {args : Array Value} {below : List Frame} {meth : Method} {c : Code} {G : Gv} (h : Cx p s m args meth c G cX8_setToll 5 RX8) (hr : meth.sig.returnType = none) : ∀ (n : Nat) (σ : Sto) (i1 : Int32) (i2 : Int32) (i3 : Int32) (z : Sto), F_X8_setToll_23 n σ i1 i2 i3 = some z → AW p l e (rmD 2 0 0) s m args below meth c (MQ below (QcR G shC νC none (ovC z)) args s 0 0 (gA G)) 0 0 G 5 23 [some (.ref 63), some (.int i1), some (.int i2), some (.int i3), none] [] shC νC (ovC σ) := by
  intro n
  induction n with
  | zero => intro σ i1 i2 i3 z hF; cases hF
  | succ n ih =>
    intro σ i1 i2 i3 z hF
    rw [F_X8_setToll_23] at hF
    refine st_iload_3 h dX8_setToll_23 ?_
    refine st_bipush (v := 10) h dX8_setToll_24 (by decide) ?_
    refine st_icmp_ge (t := 66) h dX8_setToll_26 (by decide) (fun q1 => ?_) (fun q1 => ?_)
    · have hF := pI q1 hF
      refine st_aload_0 h dX8_setToll_66 ?_
      refine st_iload_2 h dX8_setToll_67 ?_
      obtain ⟨x1, hx1, hF⟩ := bI hF
      refine st_cVi (vs := [.int i2]) (st := []) h (w_X8_chooseAt hx1) mi_X8_chooseAt mv_X8_chooseAt ml_X8_128 dX8_setToll_68 kC_63 rfl ⟨Nat.le_of_ble_eq_true rfl, Nat.le_of_ble_eq_true rfl⟩ (Nat.le_of_ble_eq_true rfl) rfl ?_
      refine st_pop h rfl dX8_setToll_71 ?_
      cases hF
      exact st_vret h hr dX8_setToll_72
    · have hF := qI q1 hF
      refine st_iload_1 h dX8_setToll_29 ?_
      refine st_iload_2 h dX8_setToll_30 ?_
      refine st_iadd h dX8_setToll_31 ?_
      refine st_ic_2 h dX8_setToll_32 ?_
      refine st_idiv h (by decide) dX8_setToll_33 ?_
      refine st_istore_4 h dX8_setToll_34 ?_
      refine st_aload_0 h dX8_setToll_36 ?_
      refine st_iload_4 h dX8_setToll_37 ?_
      obtain ⟨x2, hx2, hF⟩ := bI hF
      refine st_cVi (vs := [.int ((i1 + i2) / 2)]) (st := []) h (w_X8_chooseAt hx2) mi_X8_chooseAt mv_X8_chooseAt ml_X8_128 dX8_setToll_39 kC_63 rfl ⟨Nat.le_of_ble_eq_true rfl, Nat.le_of_ble_eq_true rfl⟩ (Nat.le_of_ble_eq_true rfl) rfl ?_
      refine st_aload_0 h dX8_setToll_42 ?_
      refine gX8_3 h fl_X8_15 dX8_setToll_43 (congrArg Prod.fst kC_63) ?_
      refine st_ic_0 h dX8_setToll_46 ?_
      refine iaC h dX8_setToll_47 kC_65 (by decide) ?_
      refine st_icmp_le (t := 57) h dX8_setToll_48 (by decide) (fun q2 => ?_) (fun q2 => ?_)
      · have hF := pI q2 hF
        refine st_iload_4 h dX8_setToll_57 ?_
        refine st_istore_2 h dX8_setToll_59 ?_
        refine st_iinc_3 (y := i3 + 1) h dX8_setToll_60 (ii_1 _) ?_
        refine st_goto (t := 23) h dX8_setToll_63 (by decide) ?_
        exact st_sub (ls_s (ls_s (ls_s (ls_s (ls_n ls_e))))) (ih x2.2 i1 ((i1 + i2) / 2) (i3 + 1) z hF)
      · have hF := qI q2 hF
        refine st_iload_4 h dX8_setToll_51 ?_
        refine st_istore_1 h dX8_setToll_53 ?_
        refine st_goto (t := 60) h dX8_setToll_54 (by decide) ?_
        refine st_iinc_3 (y := i3 + 1) h dX8_setToll_60 (ii_1 _) ?_
        refine st_goto (t := 23) h dX8_setToll_63 (by decide) ?_
        exact st_sub (ls_s (ls_s (ls_s (ls_s (ls_n ls_e))))) (ih x2.2 ((i1 + i2) / 2) i2 (i3 + 1) z hF)
set_option maxRecDepth 100000 in
set_option maxHeartbeats 4000000 in
theorem w_X8_setToll {l : Launch} {G : Gv} {σ : Sto} {z : Sto} (hF : F_X8_setToll σ  = some z) : Con l yX8_setToll cX8_setToll 5 none 2 G shC νC [.ref 63] (ovC σ) none (ovC z) := by
  rw [F_X8_setToll] at hF
  refine Con_enter (own := RX8) 4 (lv := [some (.ref 63), none, none, none, none]) mi_X8_setToll.2.2.2 rfl (Nat.le_of_ble_eq_true rfl) rfl (fun h hr hin => ?_)
  refine st_aload_0 h dX8_setToll_0 ?_
  refine st_ic_0 h dX8_setToll_1 ?_
  obtain ⟨x1, hx1, hF⟩ := bI hF
  refine st_cVi (vs := [.int 0]) (st := []) h (w_X8_chooseAt hx1) mi_X8_chooseAt mv_X8_chooseAt ml_X8_128 dX8_setToll_2 kC_63 rfl ⟨Nat.le_of_ble_eq_true rfl, Nat.le_of_ble_eq_true rfl⟩ (Nat.le_of_ble_eq_true rfl) rfl ?_
  refine st_aload_0 h dX8_setToll_5 ?_
  refine gX8_3 h fl_X8_15 dX8_setToll_6 (congrArg Prod.fst kC_63) ?_
  refine st_ic_0 h dX8_setToll_9 ?_
  refine iaC h dX8_setToll_10 kC_65 (by decide) ?_
  refine st_icmp_gt (t := 15) h dX8_setToll_11 (by decide) (fun q1 => ?_) (fun q1 => ?_)
  · have hF := pI q1 hF
    refine st_ic_0 h dX8_setToll_15 ?_
    refine st_istore_1 h dX8_setToll_16 ?_
    refine st_sipush (v := 1024) h dX8_setToll_17 (by decide) ?_
    refine st_istore_2 h dX8_setToll_20 ?_
    refine st_ic_0 h dX8_setToll_21 ?_
    refine st_istore_3 h dX8_setToll_22 ?_
    exact st_sub (ls_s (ls_s (ls_s (ls_s (ls_n ls_e))))) (w_X8_setToll_23 h hr FU x1.2 0 1024 0 z hF)
  · have hF := qI q1 hF
    cases hF
    exact st_vret h hr dX8_setToll_14
set_option maxRecDepth 100000 in
set_option maxHeartbeats 4000000 in
theorem w_X8_setStairs_88 {p : Program} {l : Launch} {e : Env} {s : State} {m : MethodId} {args : Array Value} {below : List Frame} {meth : Method} {c : Code} {G : Gv} (h : Cx p s m args meth c G cX8_setStairs 7 RX8) (hr : meth.sig.returnType = none) {k16 : Sto → Nat → Int32 → Int32 → Int32 → Int32 → Option Sto} (H16 : ∀ (σ : Sto) (a1 : Nat) (i2 : Int32) (i3 : Int32) (i4 : Int32) (i5 : Int32) (z : Sto), k16 σ a1 i2 i3 i4 i5 = some z → AW p l e (rmD 1 0 0) s m args below meth c (MQ below (QcR G shC νC none (ovC z)) args s 0 0 (gA G)) 0 0 G 7 16 [some (.ref 63), some (.ref a1), some (.int i2), some (.int i3), some (.int i4), some (.int i5), none] [] shC νC (ovC σ)) : ∀ (σ : Sto) (a1 : Nat) (i2 : Int32) (i3 : Int32) (i4 : Int32) (i5 : Int32) (z : Sto), F_X8_setStairs_88 k16 σ a1 i2 i3 i4 i5 = some z → AW p l e (rmD 1 0 0) s m args below meth c (MQ below (QcR G shC νC none (ovC z)) args s 0 0 (gA G)) 0 0 G 7 88 [some (.ref 63), some (.ref a1), some (.int i2), some (.int i3), some (.int i4), some (.int i5), none] [] shC νC (ovC σ) := by
  intro σ a1 i2 i3 i4 i5 z hF
  rw [F_X8_setStairs_88] at hF
  refine st_aload_0 h dX8_setStairs_88 ?_
  refine gX8_9 h fl_X8_33 dX8_setStairs_89 (congrArg Prod.fst kC_63) ?_
  refine st_iload_3 h dX8_setStairs_92 ?_
  refine st_iload_5 h dX8_setStairs_93 ?_
  refine st_iadd h dX8_setStairs_95 ?_
  refine st_aload_0 h dX8_setStairs_96 ?_
  refine gX8_4 h fl_X8_18 dX8_setStairs_97 (congrArg Prod.fst kC_63) ?_
  refine st_iload_2 h dX8_setStairs_100 ?_
  obtain ⟨g1, hF⟩ := gI hF
  refine iaC h dX8_setStairs_101 kC_66 g1 ?_
  refine st_isub h dX8_setStairs_102 ?_
  refine st_iload_4 h dX8_setStairs_103 ?_
  refine st_ic_1 h dX8_setStairs_105 ?_
  refine st_isub h dX8_setStairs_106 ?_
  obtain ⟨g2, hF⟩ := gI hF
  obtain ⟨s1, hs1, hF⟩ := swI hF
  refine isC h dX8_setStairs_107 kC_71 g2 hs1 ?_
  refine st_iinc_5 (y := i5 + 1) h dX8_setStairs_108 (ii_1 _) ?_
  refine st_goto (t := 16) h dX8_setStairs_111 (by decide) ?_
  exact st_sub (ls_s (ls_s (ls_s (ls_s (ls_s (ls_s (ls_n ls_e))))))) (H16 s1 a1 i2 i3 i4 (i5 + 1) z hF)
set_option maxRecDepth 100000 in
set_option maxHeartbeats 4000000 in
theorem w_X8_setStairs_56 {p : Program} {l : Launch} {e : Env} {s : State} {m : MethodId} {args : Array Value} {below : List Frame} {meth : Method} {c : Code} {G : Gv} (h : Cx p s m args meth c G cX8_setStairs 7 RX8) (hr : meth.sig.returnType = none) {k16 : Sto → Nat → Int32 → Int32 → Int32 → Int32 → Option Sto} (H16 : ∀ (σ : Sto) (a1 : Nat) (i2 : Int32) (i3 : Int32) (i4 : Int32) (i5 : Int32) (z : Sto), k16 σ a1 i2 i3 i4 i5 = some z → AW p l e (rmD 1 0 0) s m args below meth c (MQ below (QcR G shC νC none (ovC z)) args s 0 0 (gA G)) 0 0 G 7 16 [some (.ref 63), some (.ref a1), some (.int i2), some (.int i3), some (.int i4), some (.int i5), none] [] shC νC (ovC σ)) : ∀ (σ : Sto) (a1 : Nat) (i2 : Int32) (i3 : Int32) (i4 : Int32) (i5 : Int32) (i6 : Int32) (z : Sto), F_X8_setStairs_56 k16 σ a1 i2 i3 i4 i5 i6 = some z → AW p l e (rmD 1 0 0) s m args below meth c (MQ below (QcR G shC νC none (ovC z)) args s 0 0 (gA G)) 0 0 G 7 56 [some (.ref 63), some (.ref a1), some (.int i2), some (.int i3), some (.int i4), some (.int i5), some (.int i6)] [] shC νC (ovC σ) := by
  intro σ a1 i2 i3 i4 i5 i6 z hF
  rw [F_X8_setStairs_56] at hF
  refine st_aload_0 h dX8_setStairs_56 ?_
  refine gX8_7 h fl_X8_27 dX8_setStairs_57 (congrArg Prod.fst kC_63) ?_
  refine st_iload_3 h dX8_setStairs_60 ?_
  refine st_iload_4 h dX8_setStairs_61 ?_
  refine st_iadd h dX8_setStairs_63 ?_
  refine st_iload_5 h dX8_setStairs_64 ?_
  refine st_aload_0 h dX8_setStairs_66 ?_
  refine gX8_4 h fl_X8_18 dX8_setStairs_67 (congrArg Prod.fst kC_63) ?_
  refine st_iload_2 h dX8_setStairs_70 ?_
  obtain ⟨g1, hF⟩ := gI hF
  refine iaC h dX8_setStairs_71 kC_66 g1 ?_
  refine st_isub h dX8_setStairs_72 ?_
  obtain ⟨g2, hF⟩ := gI hF
  obtain ⟨s1, hs1, hF⟩ := swI hF
  refine isC h dX8_setStairs_73 kC_69 g2 hs1 ?_
  refine st_aload_0 h dX8_setStairs_74 ?_
  refine gX8_8 h fl_X8_30 dX8_setStairs_75 (congrArg Prod.fst kC_63) ?_
  refine st_iload_3 h dX8_setStairs_78 ?_
  refine st_iload_4 h dX8_setStairs_79 ?_
  refine st_iadd h dX8_setStairs_81 ?_
  refine st_iload_6 h dX8_setStairs_82 ?_
  obtain ⟨s2, hs2, hF⟩ := swI hF
  refine isC h dX8_setStairs_84 kC_70 g2 hs2 ?_
  refine st_iinc_4 (y := i4 + 1) h dX8_setStairs_85 (ii_1 _) ?_
  exact st_sub (ls_s (ls_s (ls_s (ls_s (ls_s (ls_s (ls_n ls_e))))))) (w_X8_setStairs_88 h hr H16 s2 a1 i2 i3 (i4 + 1) i5 z hF)
set_option maxRecDepth 100000 in
set_option maxHeartbeats 4000000 in
theorem w_X8_setStairs_16 {p : Program} {l : Launch} {e : Env} {s : State} {m : MethodId} {args : Array Value} {below : List Frame} {meth : Method} {c : Code} {G : Gv} (h : Cx p s m args meth c G cX8_setStairs 7 RX8) (hr : meth.sig.returnType = none) : ∀ (n : Nat) (σ : Sto) (a1 : Nat) (i2 : Int32) (i3 : Int32) (i4 : Int32) (i5 : Int32) (z : Sto), F_X8_setStairs_16 n σ a1 i2 i3 i4 i5 = some z → AW p l e (rmD 1 0 0) s m args below meth c (MQ below (QcR G shC νC none (ovC z)) args s 0 0 (gA G)) 0 0 G 7 16 [some (.ref 63), some (.ref a1), some (.int i2), some (.int i3), some (.int i4), some (.int i5), none] [] shC νC (ovC σ) := by
  intro n
  induction n with
  | zero => intro σ a1 i2 i3 i4 i5 z hF; cases hF
  | succ n ih =>
    intro σ a1 i2 i3 i4 i5 z hF
    rw [F_X8_setStairs_16] at hF
    refine st_iload_5 h dX8_setStairs_16 ?_
    refine st_aload_0 h dX8_setStairs_18 ?_
    refine gX8_5 h fl_X8_21 dX8_setStairs_19 (congrArg Prod.fst kC_63) ?_
    refine st_iload_2 h dX8_setStairs_22 ?_
    obtain ⟨g1, hF⟩ := gI hF
    refine iaC h dX8_setStairs_23 kC_67 g1 ?_
    refine st_icmp_gt (t := 114) h dX8_setStairs_24 (by decide) (fun q1 => ?_) (fun q1 => ?_)
    · have hF := pI q1 hF
      refine st_aload_0 h dX8_setStairs_114 ?_
      refine gX8_6 h fl_X8_24 dX8_setStairs_115 (congrArg Prod.fst kC_63) ?_
      refine st_iload_2 h dX8_setStairs_118 ?_
      refine st_iload_4 h dX8_setStairs_119 ?_
      obtain ⟨s1, hs1, hF⟩ := swI hF
      refine isC h dX8_setStairs_121 kC_68 g1 hs1 ?_
      cases hF
      exact st_vret h hr dX8_setStairs_122
    · have hF := qI q1 hF
      refine st_aload_1 h dX8_setStairs_27 ?_
      refine st_iload_3 h dX8_setStairs_28 ?_
      refine st_iload_5 h dX8_setStairs_29 ?_
      refine st_iadd h dX8_setStairs_31 ?_
      obtain ⟨g2, hF⟩ := gI hF
      obtain ⟨g3, hF⟩ := gI hF
      refine iaC h dX8_setStairs_32 g2 g3 ?_
      refine st_istore_6 h dX8_setStairs_33 ?_
      refine st_iload_4 h dX8_setStairs_35 ?_
      refine st_if_eq (t := 56) h dX8_setStairs_37 (by decide) (fun q2 => ?_) (fun q2 => ?_)
      · have hF := pI q2 hF
        exact st_sub (ls_s (ls_s (ls_s (ls_s (ls_s (ls_s (ls_s ls_e))))))) (w_X8_setStairs_56 h hr ih σ a1 i2 i3 i4 i5 (σ.1 a1 (ix (i3 + i5))) z hF)
      · have hF := qI q2 hF
        refine st_iload_6 h dX8_setStairs_40 ?_
        refine st_aload_0 h dX8_setStairs_42 ?_
        refine gX8_8 h fl_X8_30 dX8_setStairs_43 (congrArg Prod.fst kC_63) ?_
        refine st_iload_3 h dX8_setStairs_46 ?_
        refine st_iload_4 h dX8_setStairs_47 ?_
        refine st_iadd h dX8_setStairs_49 ?_
        refine st_ic_1 h dX8_setStairs_50 ?_
        refine st_isub h dX8_setStairs_51 ?_
        obtain ⟨g4, hF⟩ := gI hF
        refine iaC h dX8_setStairs_52 kC_70 g4 ?_
        refine st_icmp_le (t := 88) h dX8_setStairs_53 (by decide) (fun q3 => ?_) (fun q3 => ?_)
        · have hF := pI q3 hF
          exact st_sub (ls_s (ls_s (ls_s (ls_s (ls_s (ls_s (ls_n ls_e))))))) (w_X8_setStairs_88 h hr ih σ a1 i2 i3 i4 i5 z hF)
        · have hF := qI q3 hF
          exact st_sub (ls_s (ls_s (ls_s (ls_s (ls_s (ls_s (ls_s ls_e))))))) (w_X8_setStairs_56 h hr ih σ a1 i2 i3 i4 i5 (σ.1 a1 (ix (i3 + i5))) z hF)
set_option maxRecDepth 100000 in
set_option maxHeartbeats 4000000 in
theorem w_X8_setStairs {l : Launch} {G : Gv} {σ : Sto} {a1 : Nat} {i2 : Int32} {z : Sto} (hF : F_X8_setStairs σ a1 i2 = some z) : Con l yX8_setStairs cX8_setStairs 7 none 1 G shC νC [.ref 63, .ref a1, .int i2] (ovC σ) none (ovC z) := by
  rw [F_X8_setStairs] at hF
  refine Con_enter (own := RX8) 4 (lv := [some (.ref 63), some (.ref a1), some (.int i2), none, none, none, none]) mi_X8_setStairs.2.2.2 rfl (Nat.le_of_ble_eq_true rfl) rfl (fun h hr hin => ?_)
  refine st_iload_2 h dX8_setStairs_0 ?_
  refine st_bipush (v := 21) h dX8_setStairs_1 (by decide) ?_
  refine st_imul h dX8_setStairs_3 ?_
  refine st_istore_3 h dX8_setStairs_4 ?_
  refine st_ic_0 h dX8_setStairs_5 ?_
  refine st_istore_4 h dX8_setStairs_6 ?_
  refine st_aload_0 h dX8_setStairs_8 ?_
  refine gX8_4 h fl_X8_18 dX8_setStairs_9 (congrArg Prod.fst kC_63) ?_
  refine st_iload_2 h dX8_setStairs_12 ?_
  obtain ⟨g1, hF⟩ := gI hF
  refine iaC h dX8_setStairs_13 kC_66 g1 ?_
  refine st_istore_5 h dX8_setStairs_14 ?_
  exact st_sub (ls_s (ls_s (ls_s (ls_s (ls_s (ls_s (ls_n ls_e))))))) (w_X8_setStairs_16 h hr FU σ a1 i2 (i2 * 21) 0 (σ.1 66 (ix i2)) z hF)
set_option maxRecDepth 100000 in
set_option maxHeartbeats 4000000 in
theorem w_X8_prepare_11 {p : Program} {l : Launch} {e : Env} {s : State} {m : MethodId} {args : Array Value} {below : List Frame} {meth : Method} {c : Code} {G : Gv} (h : Cx p s m args meth c G cX8_prepare 3 RX8) (hr : meth.sig.returnType = (some .boolean)) : ∀ (n : Nat) (σ : Sto) (a1 : Nat) (i2 : Int32) (z : (Int32 × Sto)), F_X8_prepare_11 n σ a1 i2 = some z → AW p l e (rmD 3 0 0) s m args below meth c (MQ below (QcR G shC νC (some (.int z.1)) (ovC z.2)) args s 0 0 (gA G)) 0 0 G 3 11 [some (.ref 63), some (.ref a1), some (.int i2)] [] shC νC (ovC σ) := by
  intro n
  induction n with
  | zero => intro σ a1 i2 z hF; cases hF
  | succ n ih =>
    intro σ a1 i2 z hF
    rw [F_X8_prepare_11] at hF
    refine st_iload_2 h dX8_prepare_11 ?_
    refine st_aload_0 h dX8_prepare_12 ?_
    refine gX8_0 h fl_X8_51 dX8_prepare_13 (congrArg Prod.fst kC_63) ?_
    refine st_icmp_ge (t := 31) h dX8_prepare_16 (by decide) (fun q1 => ?_) (fun q1 => ?_)
    · have hF := pI q1 hF
      refine st_aload_0 h dX8_prepare_31 ?_
      obtain ⟨x1, hx1, hF⟩ := bI hF
      refine st_cVv (vs := []) (st := []) h (w_X8_setToll hx1) mi_X8_setToll mv_X8_setToll ml_X8_109 dX8_prepare_32 kC_63 rfl ⟨Nat.le_of_ble_eq_true rfl, Nat.le_of_ble_eq_true rfl⟩ (Nat.le_of_ble_eq_true rfl) rfl ?_
      refine st_ic_1 h dX8_prepare_35 ?_
      cases hF
      exact st_zret h hr (Or.inr rfl) dX8_prepare_36
    · have hF := qI q1 hF
      refine st_aload_0 h dX8_prepare_19 ?_
      refine st_aload_1 h dX8_prepare_20 ?_
      refine st_iload_2 h dX8_prepare_21 ?_
      obtain ⟨x2, hx2, hF⟩ := bI hF
      refine st_cVv (vs := [.ref a1, .int i2]) (st := []) h (w_X8_setStairs hx2) mi_X8_setStairs mv_X8_setStairs ml_X8_105 dX8_prepare_22 kC_63 rfl ⟨Nat.le_of_ble_eq_true rfl, Nat.le_of_ble_eq_true rfl⟩ (Nat.le_of_ble_eq_true rfl) rfl ?_
      refine st_iinc_2 (y := i2 + 1) h dX8_prepare_25 (ii_1 _) ?_
      refine st_goto (t := 11) h dX8_prepare_28 (by decide) ?_
      exact st_sub (ls_s (ls_s (ls_s ls_e))) (ih x2 a1 (i2 + 1) z hF)
set_option maxRecDepth 100000 in
set_option maxHeartbeats 4000000 in
theorem w_X8_prepare {l : Launch} {G : Gv} {σ : Sto} {a1 : Nat} {z : (Int32 × Sto)} (hF : F_X8_prepare σ a1 = some z) : Con l yX8_prepare cX8_prepare 3 (some .boolean) 3 G shC νC [.ref 63, .ref a1] (ovC σ) (some (.int z.1)) (ovC z.2) := by
  rw [F_X8_prepare] at hF
  refine Con_enter (own := RX8) 1 (lv := [some (.ref 63), some (.ref a1), none]) mi_X8_prepare.2.2.2 rfl (Nat.le_of_ble_eq_true rfl) rfl (fun h hr hin => ?_)
  refine st_aload_0 h dX8_prepare_0 ?_
  obtain ⟨x1, hx1, hF⟩ := bI hF
  refine st_cVi (vs := []) (st := []) h (w_X8_takeLowest hx1) mi_X8_takeLowest mv_X8_takeLowest ml_X8_101 dX8_prepare_1 kC_63 rfl ⟨Nat.le_of_ble_eq_true rfl, Nat.le_of_ble_eq_true rfl⟩ (Nat.le_of_ble_eq_true rfl) rfl ?_
  refine st_if_ne (t := 9) h dX8_prepare_4 (by decide) (fun q1 => ?_) (fun q1 => ?_)
  · have hF := qI q1 hF
    refine st_ic_0 h dX8_prepare_9 ?_
    refine st_istore_2 h dX8_prepare_10 ?_
    exact st_sub (ls_s (ls_s (ls_s ls_e))) (w_X8_prepare_11 h hr FU x1.2 a1 0 z hF)
  · have hF := pI q1 hF
    refine st_ic_0 h dX8_prepare_7 ?_
    cases hF
    exact st_zret h hr (Or.inl rfl) dX8_prepare_8
set_option maxRecDepth 100000 in
set_option maxHeartbeats 4000000 in
theorem w_X8_take_18 {p : Program} {l : Launch} {e : Env} {s : State} {m : MethodId} {args : Array Value} {below : List Frame} {meth : Method} {c : Code} {G : Gv} (h : Cx p s m args meth c G cX8_take 6 RX8) (hr : meth.sig.returnType = none) : ∀ (n : Nat) (σ : Sto) (i1 : Int32) (i4 : Int32) (i5 : Int32) (z : Sto), F_X8_take_18 n σ i1 i4 i5 = some z → AW p l e (rmD 1 0 0) s m args below meth c (MQ below (QcR G shC νC none (ovC z)) args s 0 0 (gA G)) 0 0 G 6 18 [some (.ref 63), some (.int i1), none, none, some (.int i4), some (.int i5)] [] shC νC (ovC σ) := by
  intro n
  induction n with
  | zero => intro σ i1 i4 i5 z hF; cases hF
  | succ n ih =>
    intro σ i1 i4 i5 z hF
    rw [F_X8_take_18] at hF
    refine st_iload_5 h dX8_take_18 ?_
    refine st_aload_0 h dX8_take_20 ?_
    refine gX8_1 h fl_X8_52 dX8_take_21 (congrArg Prod.fst kC_63) ?_
    refine st_icmp_ge (t := 57) h dX8_take_24 (by decide) (fun q1 => ?_) (fun q1 => ?_)
    · have hF := pI q1 hF
      cases hF
      exact st_vret h hr dX8_take_57
    · have hF := qI q1 hF
      refine st_aload_0 h dX8_take_27 ?_
      refine gX8_3 h fl_X8_15 dX8_take_28 (congrArg Prod.fst kC_63) ?_
      refine st_iload_5 h dX8_take_31 ?_
      refine st_dup2 h rfl rfl dX8_take_33 ?_
      obtain ⟨g1, hF⟩ := gI hF
      refine iaC h dX8_take_34 kC_65 g1 ?_
      refine st_aload_0 h dX8_take_35 ?_
      refine gX8_2 h fl_X8_11 dX8_take_36 (congrArg Prod.fst kC_63) ?_
      refine st_iload_5 h dX8_take_39 ?_
      refine st_ic_4 h dX8_take_41 ?_
      refine st_imul h dX8_take_42 ?_
      refine st_iload_1 h dX8_take_43 ?_
      refine st_iadd h dX8_take_44 ?_
      obtain ⟨g2, hF⟩ := gI hF
      refine iaC h dX8_take_45 kC_64 g2 ?_
      refine st_iload_4 h dX8_take_46 ?_
      refine st_imul h dX8_take_48 ?_
      refine st_isub h dX8_take_49 ?_
      obtain ⟨s1, hs1, hF⟩ := swI hF
      refine isC h dX8_take_50 kC_65 g1 hs1 ?_
      refine st_iinc_5 (y := i5 + 1) h dX8_take_51 (ii_1 _) ?_
      refine st_goto (t := 18) h dX8_take_54 (by decide) ?_
      exact st_sub (ls_s (ls_s (ls_n (ls_n (ls_s (ls_s ls_e)))))) (ih s1 i1 i4 (i5 + 1) z hF)
set_option maxRecDepth 100000 in
set_option maxHeartbeats 4000000 in
theorem w_X8_take {l : Launch} {G : Gv} {σ : Sto} {i1 : Int32} {i2 : Int32} {i3 : Int32} {z : Sto} (hF : F_X8_take σ i1 i2 i3 = some z) : Con l yX8_take cX8_take 6 none 1 G shC νC [.ref 63, .int i1, .int i2, .int i3] (ovC σ) none (ovC z) := by
  rw [F_X8_take] at hF
  refine Con_enter (own := RX8) 2 (lv := [some (.ref 63), some (.int i1), some (.int i2), some (.int i3), none, none]) mi_X8_take.2.2.2 rfl (Nat.le_of_ble_eq_true rfl) rfl (fun h hr hin => ?_)
  refine st_iload_3 h dX8_take_0 ?_
  refine st_aload_0 h dX8_take_1 ?_
  refine gX8_7 h fl_X8_27 dX8_take_2 (congrArg Prod.fst kC_63) ?_
  refine st_iload_1 h dX8_take_5 ?_
  refine st_bipush (v := 21) h dX8_take_6 (by decide) ?_
  refine st_imul h dX8_take_8 ?_
  refine st_iload_2 h dX8_take_9 ?_
  refine st_iadd h dX8_take_10 ?_
  obtain ⟨g1, hF⟩ := gI hF
  refine iaC h dX8_take_11 kC_69 g1 ?_
  refine st_imul h dX8_take_12 ?_
  obtain ⟨v1, hv1, hF⟩ := swI hF
  refine st_nmi hv1 ?_
  refine st_istore_4 h dX8_take_13 ?_
  refine st_ic_0 h dX8_take_15 ?_
  refine st_istore_5 h dX8_take_16 ?_
  exact st_sub (ls_s (ls_s (ls_n (ls_n (ls_s (ls_s ls_e)))))) (w_X8_take_18 h hr FU σ i1 v1 0 z hF)
set_option maxRecDepth 100000 in
set_option maxHeartbeats 4000000 in
theorem w_X8_highestStair_16 {p : Program} {l : Launch} {e : Env} {s : State} {m : MethodId} {args : Array Value} {below : List Frame} {meth : Method} {c : Code} {G : Gv} (h : Cx p s m args meth c G cX8_highestStair 5 RX8) (hr : meth.sig.returnType = (some .int)) : ∀ (n : Nat) (σ : Sto) (i1 : Int32) (i2 : Int32) (i3 : Int32) (z : Int32), F_X8_highestStair_16 n σ i1 i2 i3 = some z → AW p l e (rmD 1 0 0) s m args below meth c (MQ below (QcR G shC νC (some (.int z)) (ovC σ)) args s 0 0 (gA G)) 0 0 G 5 16 [some (.ref 63), some (.int i1), some (.int i2), some (.int i3), none] [] shC νC (ovC σ) := by
  intro n
  induction n with
  | zero => intro σ i1 i2 i3 z hF; cases hF
  | succ n ih =>
    intro σ i1 i2 i3 z hF
    rw [F_X8_highestStair_16] at hF
    refine st_iload_3 h dX8_highestStair_16 ?_
    refine st_aload_0 h dX8_highestStair_17 ?_
    refine gX8_1 h fl_X8_52 dX8_highestStair_18 (congrArg Prod.fst kC_63) ?_
    refine st_icmp_ge (t := 61) h dX8_highestStair_21 (by decide) (fun q1 => ?_) (fun q1 => ?_)
    · have hF := pI q1 hF
      refine st_aload_0 h dX8_highestStair_61 ?_
      refine gX8_9 h fl_X8_33 dX8_highestStair_62 (congrArg Prod.fst kC_63) ?_
      refine st_iload_1 h dX8_highestStair_65 ?_
      refine st_bipush (v := 21) h dX8_highestStair_66 (by decide) ?_
      refine st_imul h dX8_highestStair_68 ?_
      refine st_ic_0 h dX8_highestStair_69 ?_
      refine st_iload_2 h dX8_highestStair_70 ?_
      refine st_max h ml_X8_81 mt_max.1 mt_max.2.1 mt_max.2.2 dX8_highestStair_71 ⟨Nat.le_of_ble_eq_true rfl, Nat.le_of_ble_eq_true rfl⟩ (Nat.le_of_ble_eq_true rfl) ⟨Nat.zero_le _, Nat.zero_le _⟩ ?_
      refine st_iadd h dX8_highestStair_74 ?_
      obtain ⟨g1, hF⟩ := gI hF
      refine iaC h dX8_highestStair_75 kC_71 g1 ?_
      cases hF
      exact st_iret h hr dX8_highestStair_76
    · have hF := qI q1 hF
      refine st_aload_0 h dX8_highestStair_24 ?_
      refine gX8_2 h fl_X8_11 dX8_highestStair_25 (congrArg Prod.fst kC_63) ?_
      refine st_iload_3 h dX8_highestStair_28 ?_
      refine st_ic_4 h dX8_highestStair_29 ?_
      refine st_imul h dX8_highestStair_30 ?_
      refine st_iload_1 h dX8_highestStair_31 ?_
      refine st_iadd h dX8_highestStair_32 ?_
      obtain ⟨g2, hF⟩ := gI hF
      refine iaC h dX8_highestStair_33 kC_64 g2 ?_
      refine st_istore_4 h dX8_highestStair_34 ?_
      refine st_iload_4 h dX8_highestStair_36 ?_
      refine st_if_le (t := 55) h dX8_highestStair_38 (by decide) (fun q2 => ?_) (fun q2 => ?_)
      · have hF := pI q2 hF
        refine st_iinc_3 (y := i3 + 1) h dX8_highestStair_55 (ii_1 _) ?_
        refine st_goto (t := 16) h dX8_highestStair_58 (by decide) ?_
        exact st_sub (ls_s (ls_s (ls_s (ls_s (ls_n ls_e))))) (ih σ i1 i2 (i3 + 1) z hF)
      · have hF := qI q2 hF
        refine st_iload_2 h dX8_highestStair_41 ?_
        refine st_aload_0 h dX8_highestStair_42 ?_
        refine gX8_3 h fl_X8_15 dX8_highestStair_43 (congrArg Prod.fst kC_63) ?_
        refine st_iload_3 h dX8_highestStair_46 ?_
        obtain ⟨g3, hF⟩ := gI hF
        refine iaC h dX8_highestStair_47 kC_65 g3 ?_
        refine st_iload_4 h dX8_highestStair_48 ?_
        obtain ⟨g4, hF⟩ := gI hF
        refine st_idiv h g4 dX8_highestStair_50 ?_
        refine st_min h ml_X8_65 mt_min.1 mt_min.2.1 mt_min.2.2 dX8_highestStair_51 ⟨Nat.le_of_ble_eq_true rfl, Nat.le_of_ble_eq_true rfl⟩ (Nat.le_of_ble_eq_true rfl) ⟨Nat.zero_le _, Nat.zero_le _⟩ ?_
        obtain ⟨v1, hv1, hF⟩ := swI hF
        refine st_nmi hv1 ?_
        refine st_istore_2 h dX8_highestStair_54 ?_
        refine st_iinc_3 (y := i3 + 1) h dX8_highestStair_55 (ii_1 _) ?_
        refine st_goto (t := 16) h dX8_highestStair_58 (by decide) ?_
        exact st_sub (ls_s (ls_s (ls_s (ls_s (ls_n ls_e))))) (ih σ i1 v1 (i3 + 1) z hF)
set_option maxRecDepth 100000 in
set_option maxHeartbeats 4000000 in
theorem w_X8_highestStair {l : Launch} {G : Gv} {σ : Sto} {i1 : Int32} {z : Int32} (hF : F_X8_highestStair σ i1 = some z) : Con l yX8_highestStair cX8_highestStair 5 (some .int) 1 G shC νC [.ref 63, .int i1] (ovC σ) (some (.int z)) (ovC σ) := by
  rw [F_X8_highestStair] at hF
  refine Con_enter (own := RX8) 3 (lv := [some (.ref 63), some (.int i1), none, none, none]) mi_X8_highestStair.2.2.2 rfl (Nat.le_of_ble_eq_true rfl) rfl (fun h hr hin => ?_)
  refine st_aload_0 h dX8_highestStair_0 ?_
  refine gX8_5 h fl_X8_21 dX8_highestStair_1 (congrArg Prod.fst kC_63) ?_
  refine st_iload_1 h dX8_highestStair_4 ?_
  obtain ⟨g1, hF⟩ := gI hF
  refine iaC h dX8_highestStair_5 kC_67 g1 ?_
  refine st_aload_0 h dX8_highestStair_6 ?_
  refine gX8_4 h fl_X8_18 dX8_highestStair_7 (congrArg Prod.fst kC_63) ?_
  refine st_iload_1 h dX8_highestStair_10 ?_
  refine iaC h dX8_highestStair_11 kC_66 g1 ?_
  refine st_isub h dX8_highestStair_12 ?_
  obtain ⟨v1, hv1, hF⟩ := swI hF
  refine st_nmi hv1 ?_
  refine st_istore_2 h dX8_highestStair_13 ?_
  refine st_ic_0 h dX8_highestStair_14 ?_
  refine st_istore_3 h dX8_highestStair_15 ?_
  exact st_sub (ls_s (ls_s (ls_s (ls_s (ls_n ls_e))))) (w_X8_highestStair_16 h hr FU σ i1 v1 0 z hF)
set_option maxRecDepth 100000 in
set_option maxHeartbeats 4000000 in
theorem w_X8_startGreedily_131 {p : Program} {l : Launch} {e : Env} {s : State} {m : MethodId} {args : Array Value} {below : List Frame} {meth : Method} {c : Code} {G : Gv} (h : Cx p s m args meth c G cX8_startGreedily 2 RX8) (hr : meth.sig.returnType = none) : ∀ (n : Nat) (σ : Sto) (i1 : Int32) (z : Sto), F_X8_startGreedily_131 n σ i1 = some z → AW p l e (rmD 2 0 0) s m args below meth c (MQ below (QcR G shC νC none (ovC z)) args s 0 0 (gA G)) 0 0 G 2 131 [some (.ref 63), some (.int i1)] [] shC νC (ovC σ) := by
  intro n
  induction n with
  | zero => intro σ i1 z hF; cases hF
  | succ n ih =>
    intro σ i1 z hF
    rw [F_X8_startGreedily_131] at hF
    refine st_iload_1 h dX8_startGreedily_131 ?_
    refine st_aload_0 h dX8_startGreedily_132 ?_
    refine gX8_0 h fl_X8_51 dX8_startGreedily_133 (congrArg Prod.fst kC_63) ?_
    refine st_icmp_ge (t := 157) h dX8_startGreedily_136 (by decide) (fun q1 => ?_) (fun q1 => ?_)
    · have hF := pI q1 hF
      cases hF
      exact st_vret h hr dX8_startGreedily_157
    · have hF := qI q1 hF
      refine st_aload_0 h dX8_startGreedily_139 ?_
      refine st_iload_1 h dX8_startGreedily_140 ?_
      refine st_aload_0 h dX8_startGreedily_141 ?_
      refine gX8_10 h fl_X8_36 dX8_startGreedily_142 (congrArg Prod.fst kC_63) ?_
      refine st_iload_1 h dX8_startGreedily_145 ?_
      obtain ⟨g1, hF⟩ := gI hF
      refine iaC h dX8_startGreedily_146 kC_72 g1 ?_
      refine st_ic_m1 h dX8_startGreedily_147 ?_
      obtain ⟨x1, hx1, hF⟩ := bI hF
      refine st_cVv (vs := [.int i1, .int (σ.1 72 (ix i1)), .int (-1)]) (st := []) h (w_X8_take hx1) mi_X8_take mv_X8_take ml_X8_135 dX8_startGreedily_148 kC_63 rfl ⟨Nat.le_of_ble_eq_true rfl, Nat.le_of_ble_eq_true rfl⟩ (Nat.le_of_ble_eq_true rfl) rfl ?_
      refine st_iinc_1 (y := i1 + 1) h dX8_startGreedily_151 (ii_1 _) ?_
      refine st_goto (t := 131) h dX8_startGreedily_154 (by decide) ?_
      exact st_sub (ls_s (ls_s ls_e)) (ih x1 (i1 + 1) z hF)
set_option maxRecDepth 100000 in
set_option maxHeartbeats 4000000 in
theorem w_X8_startGreedily_55 {p : Program} {l : Launch} {e : Env} {s : State} {m : MethodId} {args : Array Value} {below : List Frame} {meth : Method} {c : Code} {G : Gv} (h : Cx p s m args meth c G cX8_startGreedily 2 RX8) (hr : meth.sig.returnType = none) : ∀ (n : Nat) (σ : Sto) (i1 : Int32) (z : Sto), F_X8_startGreedily_55 n σ i1 = some z → AW p l e (rmD 2 0 0) s m args below meth c (MQ below (QcR G shC νC none (ovC z)) args s 0 0 (gA G)) 0 0 G 2 55 [some (.ref 63), some (.int i1)] [] shC νC (ovC σ) := by
  intro n
  induction n with
  | zero => intro σ i1 z hF; cases hF
  | succ n ih =>
    intro σ i1 z hF
    rw [F_X8_startGreedily_55] at hF
    refine st_iload_1 h dX8_startGreedily_55 ?_
    refine st_aload_0 h dX8_startGreedily_56 ?_
    refine gX8_0 h fl_X8_51 dX8_startGreedily_57 (congrArg Prod.fst kC_63) ?_
    refine st_icmp_ge (t := 129) h dX8_startGreedily_60 (by decide) (fun q1 => ?_) (fun q1 => ?_)
    · have hF := pI q1 hF
      refine st_ic_0 h dX8_startGreedily_129 ?_
      refine st_istore_1 h dX8_startGreedily_130 ?_
      exact st_sub (ls_s (ls_s ls_e)) (w_X8_startGreedily_131 h hr FU σ 0 z hF)
    · have hF := qI q1 hF
      refine st_aload_0 h dX8_startGreedily_63 ?_
      refine st_iload_1 h dX8_startGreedily_64 ?_
      refine st_aload_0 h dX8_startGreedily_65 ?_
      refine gX8_10 h fl_X8_36 dX8_startGreedily_66 (congrArg Prod.fst kC_63) ?_
      refine st_iload_1 h dX8_startGreedily_69 ?_
      obtain ⟨g1, hF⟩ := gI hF
      refine iaC h dX8_startGreedily_70 kC_72 g1 ?_
      refine st_ic_m1 h dX8_startGreedily_71 ?_
      obtain ⟨x1, hx1, hF⟩ := bI hF
      refine st_cVv (vs := [.int i1, .int (σ.1 72 (ix i1)), .int (-1)]) (st := []) h (w_X8_take hx1) mi_X8_take mv_X8_take ml_X8_135 dX8_startGreedily_72 kC_63 rfl ⟨Nat.le_of_ble_eq_true rfl, Nat.le_of_ble_eq_true rfl⟩ (Nat.le_of_ble_eq_true rfl) rfl ?_
      refine st_aload_0 h dX8_startGreedily_75 ?_
      refine gX8_10 h fl_X8_36 dX8_startGreedily_76 (congrArg Prod.fst kC_63) ?_
      refine st_iload_1 h dX8_startGreedily_79 ?_
      refine st_aload_0 h dX8_startGreedily_80 ?_
      refine st_iload_1 h dX8_startGreedily_81 ?_
      obtain ⟨x2, hx2, hF⟩ := bI hF
      refine st_cVi (vs := [.int i1]) (st := [.int i1, .ref 72]) h (w_X8_highestStair hx2) mi_X8_highestStair mv_X8_highestStair ml_X8_132 dX8_startGreedily_82 kC_63 rfl ⟨Nat.le_of_ble_eq_true rfl, Nat.le_of_ble_eq_true rfl⟩ (Nat.le_of_ble_eq_true rfl) rfl ?_
      obtain ⟨s1, hs1, hF⟩ := swI hF
      refine isC h dX8_startGreedily_85 kC_72 g1 hs1 ?_
      refine st_aload_0 h dX8_startGreedily_86 ?_
      refine st_iload_1 h dX8_startGreedily_87 ?_
      refine st_aload_0 h dX8_startGreedily_88 ?_
      refine gX8_10 h fl_X8_36 dX8_startGreedily_89 (congrArg Prod.fst kC_63) ?_
      refine st_iload_1 h dX8_startGreedily_92 ?_
      refine iaC h dX8_startGreedily_93 kC_72 g1 ?_
      refine st_ic_1 h dX8_startGreedily_94 ?_
      obtain ⟨x3, hx3, hF⟩ := bI hF
      refine st_cVv (vs := [.int i1, .int (s1.1 72 (ix i1)), .int 1]) (st := []) h (w_X8_take hx3) mi_X8_take mv_X8_take ml_X8_135 dX8_startGreedily_95 kC_63 rfl ⟨Nat.le_of_ble_eq_true rfl, Nat.le_of_ble_eq_true rfl⟩ (Nat.le_of_ble_eq_true rfl) rfl ?_
      refine st_aload_0 h dX8_startGreedily_98 ?_
      refine st_dup h rfl dX8_startGreedily_99 ?_
      refine gX8_14 h fl_X8_122 dX8_startGreedily_100 (congrArg Prod.fst kC_63) ?_
      refine st_aload_0 h dX8_startGreedily_103 ?_
      refine gX8_8 h fl_X8_30 dX8_startGreedily_104 (congrArg Prod.fst kC_63) ?_
      refine st_iload_1 h dX8_startGreedily_107 ?_
      refine st_bipush (v := 21) h dX8_startGreedily_108 (by decide) ?_
      refine st_imul h dX8_startGreedily_110 ?_
      refine st_aload_0 h dX8_startGreedily_111 ?_
      refine gX8_10 h fl_X8_36 dX8_startGreedily_112 (congrArg Prod.fst kC_63) ?_
      refine st_iload_1 h dX8_startGreedily_115 ?_
      refine iaC h dX8_startGreedily_116 kC_72 g1 ?_
      refine st_iadd h dX8_startGreedily_117 ?_
      obtain ⟨g2, hF⟩ := gI hF
      refine iaC h dX8_startGreedily_118 kC_70 g2 ?_
      refine st_iadd h dX8_startGreedily_119 ?_
      obtain ⟨s2, hs2, hF⟩ := swI hF
      refine pX8_14 h fl_X8_122 dX8_startGreedily_120 (congrArg Prod.fst kC_63) hs2 ?_
      refine st_iinc_1 (y := i1 + 1) h dX8_startGreedily_123 (ii_1 _) ?_
      refine st_goto (t := 55) h dX8_startGreedily_126 (by decide) ?_
      exact st_sub (ls_s (ls_s ls_e)) (ih s2 (i1 + 1) z hF)
set_option maxRecDepth 100000 in
set_option maxHeartbeats 4000000 in
theorem w_X8_startGreedily_2 {p : Program} {l : Launch} {e : Env} {s : State} {m : MethodId} {args : Array Value} {below : List Frame} {meth : Method} {c : Code} {G : Gv} (h : Cx p s m args meth c G cX8_startGreedily 2 RX8) (hr : meth.sig.returnType = none) : ∀ (n : Nat) (σ : Sto) (i1 : Int32) (z : Sto), F_X8_startGreedily_2 n σ i1 = some z → AW p l e (rmD 2 0 0) s m args below meth c (MQ below (QcR G shC νC none (ovC z)) args s 0 0 (gA G)) 0 0 G 2 2 [some (.ref 63), some (.int i1)] [] shC νC (ovC σ) := by
  intro n
  induction n with
  | zero => intro σ i1 z hF; cases hF
  | succ n ih =>
    intro σ i1 z hF
    rw [F_X8_startGreedily_2] at hF
    refine st_iload_1 h dX8_startGreedily_2 ?_
    refine st_aload_0 h dX8_startGreedily_3 ?_
    refine gX8_0 h fl_X8_51 dX8_startGreedily_4 (congrArg Prod.fst kC_63) ?_
    refine st_icmp_ge (t := 48) h dX8_startGreedily_7 (by decide) (fun q1 => ?_) (fun q1 => ?_)
    · have hF := pI q1 hF
      refine st_aload_0 h dX8_startGreedily_48 ?_
      refine st_ic_m1 h dX8_startGreedily_49 ?_
      obtain ⟨s1, hs1, hF⟩ := swI hF
      refine pX8_14 h fl_X8_122 dX8_startGreedily_50 (congrArg Prod.fst kC_63) hs1 ?_
      refine st_ic_0 h dX8_startGreedily_53 ?_
      refine st_istore_1 h dX8_startGreedily_54 ?_
      exact st_sub (ls_s (ls_s ls_e)) (w_X8_startGreedily_55 h hr FU s1 0 z hF)
    · have hF := qI q1 hF
      refine st_aload_0 h dX8_startGreedily_10 ?_
      refine gX8_10 h fl_X8_36 dX8_startGreedily_11 (congrArg Prod.fst kC_63) ?_
      refine st_iload_1 h dX8_startGreedily_14 ?_
      refine st_aload_0 h dX8_startGreedily_15 ?_
      refine gX8_10 h fl_X8_36 dX8_startGreedily_16 (congrArg Prod.fst kC_63) ?_
      refine st_iload_1 h dX8_startGreedily_19 ?_
      obtain ⟨g1, hF⟩ := gI hF
      refine iaC h dX8_startGreedily_20 kC_72 g1 ?_
      refine st_aload_0 h dX8_startGreedily_21 ?_
      refine st_iload_1 h dX8_startGreedily_22 ?_
      obtain ⟨x1, hx1, hF⟩ := bI hF
      refine st_cVi (vs := [.int i1]) (st := [.int (σ.1 72 (ix i1)), .int i1, .ref 72]) h (w_X8_highestStair hx1) mi_X8_highestStair mv_X8_highestStair ml_X8_132 dX8_startGreedily_23 kC_63 rfl ⟨Nat.le_of_ble_eq_true rfl, Nat.le_of_ble_eq_true rfl⟩ (Nat.le_of_ble_eq_true rfl) rfl ?_
      refine st_min h ml_X8_65 mt_min.1 mt_min.2.1 mt_min.2.2 dX8_startGreedily_26 ⟨Nat.le_of_ble_eq_true rfl, Nat.le_of_ble_eq_true rfl⟩ (Nat.le_of_ble_eq_true rfl) ⟨Nat.zero_le _, Nat.zero_le _⟩ ?_
      obtain ⟨s2, hs2, hF⟩ := swI hF
      refine isC h dX8_startGreedily_29 kC_72 g1 hs2 ?_
      refine st_aload_0 h dX8_startGreedily_30 ?_
      refine st_iload_1 h dX8_startGreedily_31 ?_
      refine st_aload_0 h dX8_startGreedily_32 ?_
      refine gX8_10 h fl_X8_36 dX8_startGreedily_33 (congrArg Prod.fst kC_63) ?_
      refine st_iload_1 h dX8_startGreedily_36 ?_
      refine iaC h dX8_startGreedily_37 kC_72 g1 ?_
      refine st_ic_1 h dX8_startGreedily_38 ?_
      obtain ⟨x2, hx2, hF⟩ := bI hF
      refine st_cVv (vs := [.int i1, .int (s2.1 72 (ix i1)), .int 1]) (st := []) h (w_X8_take hx2) mi_X8_take mv_X8_take ml_X8_135 dX8_startGreedily_39 kC_63 rfl ⟨Nat.le_of_ble_eq_true rfl, Nat.le_of_ble_eq_true rfl⟩ (Nat.le_of_ble_eq_true rfl) rfl ?_
      refine st_iinc_1 (y := i1 + 1) h dX8_startGreedily_42 (ii_1 _) ?_
      refine st_goto (t := 2) h dX8_startGreedily_45 (by decide) ?_
      exact st_sub (ls_s (ls_s ls_e)) (ih x2 (i1 + 1) z hF)
set_option maxRecDepth 100000 in
set_option maxHeartbeats 4000000 in
theorem w_X8_startGreedily {l : Launch} {G : Gv} {σ : Sto} {z : Sto} (hF : F_X8_startGreedily σ  = some z) : Con l yX8_startGreedily cX8_startGreedily 2 none 2 G shC νC [.ref 63] (ovC σ) none (ovC z) := by
  rw [F_X8_startGreedily] at hF
  refine Con_enter (own := RX8) 1 (lv := [some (.ref 63), none]) mi_X8_startGreedily.2.2.2 rfl (Nat.le_of_ble_eq_true rfl) rfl (fun h hr hin => ?_)
  refine st_ic_0 h dX8_startGreedily_0 ?_
  refine st_istore_1 h dX8_startGreedily_1 ?_
  exact st_sub (ls_s (ls_s ls_e)) (w_X8_startGreedily_2 h hr FU σ 0 z hF)
