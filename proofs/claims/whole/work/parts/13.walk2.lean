set_option maxRecDepth 100000 in
set_option maxHeartbeats 4000000 in
theorem w_X8_end {l : Launch} {G : Gv} {σ : Sto} {i1 : Int32} {i2 : Int32} {i3 : Int32} {z : Sto} (hF : F_X8_end σ i1 i2 i3 = some z) : Con l yX8_end cX8_end 5 none 1 G shC νC [.ref 63, .int i1, .int i2, .int i3] (ovC σ) none (ovC z) := by
  rw [F_X8_end] at hF
  refine Con_enter (own := RX8) 1 (lv := [some (.ref 63), some (.int i1), some (.int i2), some (.int i3), none]) mi_X8_end.2.2.2 rfl (Nat.le_of_ble_eq_true rfl) rfl (fun h hr hin => ?_)
  refine st_iload_3 h dX8_end_0 ?_
  refine st_aload_0 h dX8_end_1 ?_
  refine gX8_8 h fl_X8_30 dX8_end_2 (congrArg Prod.fst kC_63) ?_
  refine st_iload_1 h dX8_end_5 ?_
  refine st_bipush (v := 21) h dX8_end_6 (by decide) ?_
  refine st_imul h dX8_end_8 ?_
  refine st_iload_2 h dX8_end_9 ?_
  refine st_iadd h dX8_end_10 ?_
  obtain ⟨g1, hF⟩ := gI hF
  refine iaC h dX8_end_11 kC_70 g1 ?_
  refine st_iadd h dX8_end_12 ?_
  obtain ⟨v1, hv1, hF⟩ := swI hF
  refine st_nmi hv1 ?_
  refine st_istore_4 h dX8_end_13 ?_
  refine st_iload_4 h dX8_end_15 ?_
  refine st_aload_0 h dX8_end_17 ?_
  refine gX8_14 h fl_X8_122 dX8_end_18 (congrArg Prod.fst kC_63) ?_
  refine st_icmp_le (t := 51) h dX8_end_21 (by decide) (fun q1 => ?_) (fun q1 => ?_)
  · have hF := pI q1 hF
    cases hF
    exact st_vret h hr dX8_end_51
  · have hF := qI q1 hF
    refine st_aload_0 h dX8_end_24 ?_
    refine st_iload_4 h dX8_end_25 ?_
    obtain ⟨s1, hs1, hF⟩ := swI hF
    refine pX8_14 h fl_X8_122 dX8_end_27 (congrArg Prod.fst kC_63) hs1 ?_
    refine st_aload_0 h dX8_end_30 ?_
    refine gX8_10 h fl_X8_36 dX8_end_31 (congrArg Prod.fst kC_63) ?_
    refine st_iload_1 h dX8_end_34 ?_
    refine st_iload_2 h dX8_end_35 ?_
    obtain ⟨g2, hF⟩ := gI hF
    obtain ⟨s2, hs2, hF⟩ := swI hF
    refine isC h dX8_end_36 kC_72 g2 hs2 ?_
    refine st_aload_0 h dX8_end_37 ?_
    refine gX8_10 h fl_X8_36 dX8_end_38 (congrArg Prod.fst kC_63) ?_
    refine st_ic_0 h dX8_end_41 ?_
    refine st_aload_0 h dX8_end_42 ?_
    refine gX8_11 h fl_X8_39 dX8_end_43 (congrArg Prod.fst kC_63) ?_
    refine st_ic_0 h dX8_end_46 ?_
    refine st_ic_4 h dX8_end_47 ?_
    obtain ⟨s3, hs3, hF⟩ := swI hF
    refine cpC h ml_X8_142 dX8_end_48 kC_72 kC_73 (by decide) (by decide) (by decide) (by decide) (by decide) ⟨Nat.le_of_ble_eq_true rfl, Nat.le_of_ble_eq_true rfl⟩ hs3 ?_
    cases hF
    exact st_vret h hr dX8_end_51
set_option maxRecDepth 100000 in
set_option maxHeartbeats 4000000 in
theorem w_X8_descend_33 {p : Program} {l : Launch} {e : Env} {s : State} {m : MethodId} {args : Array Value} {below : List Frame} {meth : Method} {c : Code} {G : Gv} (h : Cx p s m args meth c G cX8_descend 8 RX8) (hr : meth.sig.returnType = none) {d : Nat} {kr : Sto → Int32 → Int32 → Option Sto} (Hr : ∀ (σ : Sto) (i1 : Int32) (i2 : Int32) (z : Sto), kr σ i1 i2 = some z → Con l yX8_descend cX8_descend 8 none (d + 2) G shC νC [.ref 63, .int i1, .int i2] (ovC σ) none (ovC z)) : ∀ (n : Nat) (σ : Sto) (i1 : Int32) (i2 : Int32) (i3 : Int32) (i4 : Int32) (i5 : Int32) (z : Sto), F_X8_descend_33 kr n σ i1 i2 i3 i4 i5 = some z → AW p l e (rmD (d + 1 + 2) 0 0) s m args below meth c (MQ below (QcR G shC νC none (ovC z)) args s 0 0 (gA G)) 0 0 G 8 33 [some (.ref 63), some (.int i1), some (.int i2), some (.int i3), some (.int i4), some (.int i5), none, none] [] shC νC (ovC σ) := by
  intro n
  induction n with
  | zero => intro σ i1 i2 i3 i4 i5 z hF; cases hF
  | succ n ih =>
    intro σ i1 i2 i3 i4 i5 z hF
    rw [F_X8_descend_33] at hF
    refine st_iload_5 h dX8_descend_33 ?_
    refine st_iload_3 h dX8_descend_35 ?_
    refine st_icmp_gt (t := 151) h dX8_descend_36 (by decide) (fun q1 => ?_) (fun q1 => ?_)
    · have hF := pI q1 hF
      cases hF
      exact st_vret h hr dX8_descend_151
    · have hF := qI q1 hF
      refine st_iload_2 h dX8_descend_39 ?_
      refine st_aload_0 h dX8_descend_40 ?_
      refine gX8_8 h fl_X8_30 dX8_descend_41 (congrArg Prod.fst kC_63) ?_
      refine st_iload_4 h dX8_descend_44 ?_
      refine st_iload_5 h dX8_descend_46 ?_
      refine st_iadd h dX8_descend_48 ?_
      obtain ⟨g1, hF⟩ := gI hF
      refine iaC h dX8_descend_49 kC_70 g1 ?_
      refine st_iadd h dX8_descend_50 ?_
      refine st_istore_6 h dX8_descend_51 ?_
      refine st_aload_0 h dX8_descend_53 ?_
      refine gX8_3 h fl_X8_15 dX8_descend_54 (congrArg Prod.fst kC_63) ?_
      refine st_ic_0 h dX8_descend_57 ?_
      refine iaC h dX8_descend_58 kC_65 (by decide) ?_
      refine st_aload_0 h dX8_descend_59 ?_
      refine gX8_2 h fl_X8_11 dX8_descend_60 (congrArg Prod.fst kC_63) ?_
      refine st_iload_1 h dX8_descend_63 ?_
      obtain ⟨g2, hF⟩ := gI hF
      refine iaC h dX8_descend_64 kC_64 g2 ?_
      refine st_aload_0 h dX8_descend_65 ?_
      refine gX8_7 h fl_X8_27 dX8_descend_66 (congrArg Prod.fst kC_63) ?_
      refine st_iload_4 h dX8_descend_69 ?_
      refine st_iload_5 h dX8_descend_71 ?_
      refine st_iadd h dX8_descend_73 ?_
      refine iaC h dX8_descend_74 kC_69 g1 ?_
      refine st_imul h dX8_descend_75 ?_
      refine st_isub h dX8_descend_76 ?_
      obtain ⟨v1, hv1, hF⟩ := swI hF
      refine st_nmi hv1 ?_
      refine st_istore_7 h dX8_descend_77 ?_
      refine st_iload_6 h dX8_descend_79 ?_
      refine st_aload_0 h dX8_descend_81 ?_
      refine gX8_14 h fl_X8_122 dX8_descend_82 (congrArg Prod.fst kC_63) ?_
      refine st_isub h dX8_descend_85 ?_
      refine st_bipush (v := 8) h dX8_descend_86 (by decide) ?_
      refine st_ishl h dX8_descend_88 ?_
      refine st_aload_0 h dX8_descend_89 ?_
      refine gX8_12 h fl_X8_42 dX8_descend_90 (congrArg Prod.fst kC_63) ?_
      refine st_iload_1 h dX8_descend_93 ?_
      refine st_ic_1 h dX8_descend_94 ?_
      refine st_iadd h dX8_descend_95 ?_
      obtain ⟨g3, hF⟩ := gI hF
      refine iaC h dX8_descend_96 kC_74 g3 ?_
      refine st_iadd h dX8_descend_97 ?_
      refine st_aload_0 h dX8_descend_98 ?_
      refine gX8_13 h fl_X8_112 dX8_descend_99 (congrArg Prod.fst kC_63) ?_
      refine st_iload_7 h dX8_descend_102 ?_
      refine st_imul h dX8_descend_104 ?_
      refine st_iadd h dX8_descend_105 ?_
      refine st_sipush (v := 256) h dX8_descend_106 (by decide) ?_
      refine st_icmp_lt (t := 145) h dX8_descend_109 (by decide) (fun q2 => ?_) (fun q2 => ?_)
      · have hF := pI q2 hF
        refine st_iinc_5 (y := i5 + 1) h dX8_descend_145 (ii_1 _) ?_
        refine st_goto (t := 33) h dX8_descend_148 (by decide) ?_
        exact st_sub (ls_s (ls_s (ls_s (ls_s (ls_s (ls_s (ls_n (ls_n ls_e)))))))) (ih σ i1 i2 i3 i4 (i5 + 1) z hF)
      · have hF := qI q2 hF
        refine st_aload_0 h dX8_descend_112 ?_
        refine gX8_10 h fl_X8_36 dX8_descend_113 (congrArg Prod.fst kC_63) ?_
        refine st_iload_1 h dX8_descend_116 ?_
        refine st_iload_5 h dX8_descend_117 ?_
        obtain ⟨g4, hF⟩ := gI hF
        obtain ⟨s1, hs1, hF⟩ := swI hF
        refine isC h dX8_descend_119 kC_72 g4 hs1 ?_
        refine st_aload_0 h dX8_descend_120 ?_
        refine st_iload_1 h dX8_descend_121 ?_
        refine st_iload_5 h dX8_descend_122 ?_
        refine st_ic_1 h dX8_descend_124 ?_
        obtain ⟨x1, hx1, hF⟩ := bI hF
        refine st_cVv (vs := [.int i1, .int i5, .int 1]) (st := []) h (w_X8_take hx1) mi_X8_take mv_X8_take ml_X8_135 dX8_descend_125 kC_63 rfl (by constructor <;> simp only [rmD] <;> omega) (Nat.le_of_ble_eq_true rfl) rfl ?_
        refine st_aload_0 h dX8_descend_128 ?_
        refine st_iload_1 h dX8_descend_129 ?_
        refine st_ic_1 h dX8_descend_130 ?_
        refine st_iadd h dX8_descend_131 ?_
        refine st_iload_6 h dX8_descend_132 ?_
        obtain ⟨x2, hx2, hF⟩ := bI hF
        refine st_cVv (vs := [.int (i1 + 1), .int (i2 + (σ.1 70 (ix (i4 + i5))))]) (st := []) h (Hr x1 (i1 + 1) (i2 + (σ.1 70 (ix (i4 + i5)))) x2 hx2) mi_X8_descend mv_X8_descend ml_X8_118 dX8_descend_134 kC_63 rfl (by constructor <;> simp only [rmD] <;> omega) (Nat.le_of_ble_eq_true rfl) rfl ?_
        refine st_aload_0 h dX8_descend_137 ?_
        refine st_iload_1 h dX8_descend_138 ?_
        refine st_iload_5 h dX8_descend_139 ?_
        refine st_ic_m1 h dX8_descend_141 ?_
        obtain ⟨x3, hx3, hF⟩ := bI hF
        refine st_cVv (vs := [.int i1, .int i5, .int (-1)]) (st := []) h (w_X8_take hx3) mi_X8_take mv_X8_take ml_X8_135 dX8_descend_142 kC_63 rfl (by constructor <;> simp only [rmD] <;> omega) (Nat.le_of_ble_eq_true rfl) rfl ?_
        refine st_iinc_5 (y := i5 + 1) h dX8_descend_145 (ii_1 _) ?_
        refine st_goto (t := 33) h dX8_descend_148 (by decide) ?_
        exact st_sub (ls_s (ls_s (ls_s (ls_s (ls_s (ls_s (ls_n (ls_n ls_e)))))))) (ih x3 i1 i2 i3 i4 (i5 + 1) z hF)
set_option maxRecDepth 100000 in
set_option maxHeartbeats 4000000 in
theorem w_X8_descend {l : Launch} {G : Gv} : ∀ (d : Nat) (σ : Sto) (i1 : Int32) (i2 : Int32) (z : Sto), F_X8_descend d σ i1 i2 = some z → Con l yX8_descend cX8_descend 8 none (d + 2) G shC νC [.ref 63, .int i1, .int i2] (ovC σ) none (ovC z) := by
  intro d
  induction d with
  | zero => intro σ i1 i2 z hF; cases hF
  | succ d Hr =>
    intro σ i1 i2 z hF
    rw [F_X8_descend] at hF
    refine Con_enter (own := RX8) 5 (lv := [some (.ref 63), some (.int i1), some (.int i2), none, none, none, none, none]) mi_X8_descend.2.2.2 rfl (Nat.le_of_ble_eq_true rfl) rfl (fun h hr hin => ?_)
    refine st_aload_0 h dX8_descend_0 ?_
    refine st_iload_1 h dX8_descend_1 ?_
    obtain ⟨x1, hx1, hF⟩ := bI hF
    refine st_cVi (vs := [.int i1]) (st := []) h (w_X8_highestStair hx1) mi_X8_highestStair mv_X8_highestStair ml_X8_132 dX8_descend_2 kC_63 rfl (by constructor <;> simp only [rmD] <;> omega) (Nat.le_of_ble_eq_true rfl) rfl ?_
    refine st_istore_3 h dX8_descend_5 ?_
    refine st_iload_1 h dX8_descend_6 ?_
    refine st_aload_0 h dX8_descend_7 ?_
    refine gX8_0 h fl_X8_51 dX8_descend_8 (congrArg Prod.fst kC_63) ?_
    refine st_ic_1 h dX8_descend_11 ?_
    refine st_isub h dX8_descend_12 ?_
    refine st_icmp_lt (t := 24) h dX8_descend_13 (by decide) (fun q1 => ?_) (fun q1 => ?_)
    · have hF := pI q1 hF
      refine st_iload_1 h dX8_descend_24 ?_
      refine st_bipush (v := 21) h dX8_descend_25 (by decide) ?_
      refine st_imul h dX8_descend_27 ?_
      refine st_istore_4 h dX8_descend_28 ?_
      refine st_ic_0 h dX8_descend_30 ?_
      refine st_istore_5 h dX8_descend_31 ?_
      exact st_sub (ls_s (ls_s (ls_s (ls_s (ls_s (ls_s (ls_n (ls_n ls_e)))))))) (w_X8_descend_33 h hr Hr FU σ i1 i2 x1 (i1 * 21) 0 z hF)
    · have hF := qI q1 hF
      refine st_aload_0 h dX8_descend_16 ?_
      refine st_iload_1 h dX8_descend_17 ?_
      refine st_iload_3 h dX8_descend_18 ?_
      refine st_iload_2 h dX8_descend_19 ?_
      obtain ⟨x2, hx2, hF⟩ := bI hF
      refine st_cVv (vs := [.int i1, .int x1, .int i2]) (st := []) h (w_X8_end hx2) mi_X8_end mv_X8_end ml_X8_139 dX8_descend_20 kC_63 rfl (by constructor <;> simp only [rmD] <;> omega) (Nat.le_of_ble_eq_true rfl) rfl ?_
      cases hF
      exact st_vret h hr dX8_descend_23
set_option maxRecDepth 100000 in
set_option maxHeartbeats 4000000 in
theorem w_X8_seek_20 {p : Program} {l : Launch} {e : Env} {s : State} {m : MethodId} {args : Array Value} {below : List Frame} {meth : Method} {c : Code} {G : Gv} (h : Cx p s m args meth c G cX8_seek 3 RX8) (hr : meth.sig.returnType = none) : ∀ (n : Nat) (σ : Sto) (a1 : Nat) (i2 : Int32) (z : Sto), F_X8_seek_20 n σ a1 i2 = some z → AW p l e (rmD 9 0 0) s m args below meth c (MQ below (QcR G shC νC none (ovC z)) args s 0 0 (gA G)) 0 0 G 3 20 [some (.ref 63), some (.ref a1), some (.int i2)] [] shC νC (ovC σ) := by
  intro n
  induction n with
  | zero => intro σ a1 i2 z hF; cases hF
  | succ n ih =>
    intro σ a1 i2 z hF
    rw [F_X8_seek_20] at hF
    refine st_iload_2 h dX8_seek_20 ?_
    refine st_aload_0 h dX8_seek_21 ?_
    refine gX8_0 h fl_X8_51 dX8_seek_22 (congrArg Prod.fst kC_63) ?_
    refine st_icmp_ge (t := 63) h dX8_seek_25 (by decide) (fun q1 => ?_) (fun q1 => ?_)
    · have hF := pI q1 hF
      cases hF
      exact st_vret h hr dX8_seek_63
    · have hF := qI q1 hF
      refine st_aload_1 h dX8_seek_28 ?_
      obtain ⟨g1, hF⟩ := gI hF
      refine gX7_3 h fl_X8_127 dX8_seek_29 g1 ?_
      refine st_iload_2 h dX8_seek_32 ?_
      refine st_aload_0 h dX8_seek_33 ?_
      refine gX8_4 h fl_X8_18 dX8_seek_34 (congrArg Prod.fst kC_63) ?_
      refine st_iload_2 h dX8_seek_37 ?_
      obtain ⟨g2, hF⟩ := gI hF
      refine iaC h dX8_seek_38 kC_66 g2 ?_
      refine st_aload_0 h dX8_seek_39 ?_
      refine gX8_7 h fl_X8_27 dX8_seek_40 (congrArg Prod.fst kC_63) ?_
      refine st_iload_2 h dX8_seek_43 ?_
      refine st_bipush (v := 21) h dX8_seek_44 (by decide) ?_
      refine st_imul h dX8_seek_46 ?_
      refine st_aload_0 h dX8_seek_47 ?_
      refine gX8_11 h fl_X8_39 dX8_seek_48 (congrArg Prod.fst kC_63) ?_
      refine st_iload_2 h dX8_seek_51 ?_
      refine iaC h dX8_seek_52 kC_73 g2 ?_
      refine st_iadd h dX8_seek_53 ?_
      obtain ⟨g3, hF⟩ := gI hF
      refine iaC h dX8_seek_54 kC_69 g3 ?_
      refine st_iadd h dX8_seek_55 ?_
      obtain ⟨s1, hs1, hF⟩ := swI hF
      refine isC h dX8_seek_56 (sk_7_3 g1) g2 hs1 ?_
      refine st_iinc_2 (y := i2 + 1) h dX8_seek_57 (ii_1 _) ?_
      refine st_goto (t := 20) h dX8_seek_60 (by decide) ?_
      exact st_sub (ls_s (ls_s (ls_s ls_e))) (ih s1 a1 (i2 + 1) z hF)
set_option maxRecDepth 100000 in
set_option maxHeartbeats 4000000 in
theorem w_X8_seek {l : Launch} {G : Gv} {σ : Sto} {a1 : Nat} {z : Sto} (hF : F_X8_seek σ a1 = some z) : Con l yX8_seek cX8_seek 3 none 9 G shC νC [.ref 63, .ref a1] (ovC σ) none (ovC z) := by
  rw [F_X8_seek] at hF
  refine Con_enter (own := RX8) 1 (lv := [some (.ref 63), some (.ref a1), none]) mi_X8_seek.2.2.2 rfl (Nat.le_of_ble_eq_true rfl) rfl (fun h hr hin => ?_)
  refine st_aload_0 h dX8_seek_0 ?_
  obtain ⟨x1, hx1, hF⟩ := bI hF
  refine st_cVv (vs := []) (st := []) h (w_X8_startGreedily hx1) mi_X8_startGreedily mv_X8_startGreedily ml_X8_115 dX8_seek_1 kC_63 rfl ⟨Nat.le_of_ble_eq_true rfl, Nat.le_of_ble_eq_true rfl⟩ (Nat.le_of_ble_eq_true rfl) rfl ?_
  refine st_aload_0 h dX8_seek_4 ?_
  refine st_ic_0 h dX8_seek_5 ?_
  refine st_ic_0 h dX8_seek_6 ?_
  obtain ⟨x2, hx2, hF⟩ := bI hF
  refine st_cVv (vs := [.int 0, .int 0]) (st := []) h (w_X8_descend 6 x1 0 0 x2 hx2) mi_X8_descend mv_X8_descend ml_X8_118 dX8_seek_7 kC_63 rfl ⟨Nat.le_of_ble_eq_true rfl, Nat.le_of_ble_eq_true rfl⟩ (Nat.le_of_ble_eq_true rfl) rfl ?_
  refine st_aload_1 h dX8_seek_10 ?_
  refine st_aload_0 h dX8_seek_11 ?_
  refine gX8_14 h fl_X8_122 dX8_seek_12 (congrArg Prod.fst kC_63) ?_
  obtain ⟨g1, hF⟩ := gI hF
  obtain ⟨s1, hs1, hF⟩ := swI hF
  refine pX7_2 h fl_X8_125 dX8_seek_15 g1 hs1 ?_
  refine st_ic_0 h dX8_seek_18 ?_
  refine st_istore_2 h dX8_seek_19 ?_
  exact st_sub (ls_s (ls_s (ls_s ls_e))) (w_X8_seek_20 h hr FU s1 a1 0 z hF)
set_option maxRecDepth 100000 in
set_option maxHeartbeats 4000000 in
theorem w_X8_find {l : Launch} {G : Gv} {σ : Sto} {a1 : Nat} {a2 : Nat} {z : Sto} (hF : F_X8_find σ a1 a2 = some z) : Con l yX8_find cX8_find 3 none 10 G shC νC [.ref 63, .ref a1, .ref a2] (ovC σ) none (ovC z) := by
  rw [F_X8_find] at hF
  refine Con_enter (own := RX8) 0 (lv := [some (.ref 63), some (.ref a1), some (.ref a2)]) mi_X8_find.2.2.2 rfl (Nat.le_of_ble_eq_true rfl) rfl (fun h hr hin => ?_)
  refine st_aload_2 h dX8_find_0 ?_
  refine st_ic_1 h dX8_find_1 ?_
  obtain ⟨g1, hF⟩ := gI hF
  obtain ⟨s1, hs1, hF⟩ := swI hF
  refine pX7_0 h fl_X8_84 dX8_find_2 g1 (Or.inr rfl) hs1 ?_
  refine st_aload_2 h dX8_find_5 ?_
  refine st_aload_0 h dX8_find_6 ?_
  refine st_aload_1 h dX8_find_7 ?_
  obtain ⟨x1, hx1, hF⟩ := bI hF
  refine st_cVi (vs := [.ref a1]) (st := [.ref a2]) h (w_X8_prepare hx1) mi_X8_prepare mv_X8_prepare ml_X8_90 dX8_find_8 kC_63 rfl ⟨Nat.le_of_ble_eq_true rfl, Nat.le_of_ble_eq_true rfl⟩ (Nat.le_of_ble_eq_true rfl) rfl ?_
  obtain ⟨g2, hF⟩ := gI hF
  obtain ⟨s2, hs2, hF⟩ := swI hF
  refine pX7_1 h fl_X8_94 dX8_find_11 g1 g2 hs2 ?_
  refine st_aload_2 h dX8_find_14 ?_
  refine gX7_1 h fl_X8_94 dX8_find_15 g1 ?_
  refine st_if_eq (t := 26) h dX8_find_18 (by decide) (fun q1 => ?_) (fun q1 => ?_)
  · have hF := pI q1 hF
    cases hF
    exact st_vret h hr dX8_find_26
  · have hF := qI q1 hF
    refine st_aload_0 h dX8_find_21 ?_
    refine st_aload_2 h dX8_find_22 ?_
    obtain ⟨x2, hx2, hF⟩ := bI hF
    refine st_cVv (vs := [.ref a2]) (st := []) h (w_X8_seek hx2) mi_X8_seek mv_X8_seek ml_X8_97 dX8_find_23 kC_63 rfl ⟨Nat.le_of_ble_eq_true rfl, Nat.le_of_ble_eq_true rfl⟩ (Nat.le_of_ble_eq_true rfl) rfl ?_
    cases hF
    exact st_vret h hr dX8_find_26
set_option maxRecDepth 100000 in
set_option maxHeartbeats 4000000 in
theorem w_X2_findBest {l : Launch} {G : Gv} {σ : Sto} {a1 : Nat} {a2 : Nat} {z : (Nat × Sto)} (hF : F_X2_findBest σ a1 a2 = some z) : Con l yX2_findBest cX2_findBest 3 (some (.object "BasketCap$Row")) 11 G shC νC [.ref 75, .ref a1, .ref a2] (ovC σ) (some (.ref z.1)) (ovC z.2) := by
  rw [F_X2_findBest] at hF
  refine Con_enter (own := RX2) 0 (lv := [some (.ref 75), some (.ref a1), some (.ref a2)]) mi_X2_findBest.2.2.2 rfl (Nat.le_of_ble_eq_true rfl) rfl (fun h hr hin => ?_)
  refine st_aload_0 h dX2_findBest_0 ?_
  refine gX2_1 h fl_X2_12 dX2_findBest_1 (congrArg Prod.fst kC_75) ?_
  refine gX7_0 h fl_X2_31 dX2_findBest_4 (congrArg Prod.fst kC_76) ?_
  refine st_if_ne (t := 34) h dX2_findBest_7 (by decide) (fun q1 => ?_) (fun q1 => ?_)
  · have hF := qI q1 hF
    refine st_aload_0 h dX2_findBest_34 ?_
    refine gX2_1 h fl_X2_12 dX2_findBest_35 (congrArg Prod.fst kC_75) ?_
    cases hF
    exact st_aret h hr dX2_findBest_38
  · have hF := pI q1 hF
    refine st_aload_0 h dX2_findBest_10 ?_
    refine gX2_0 h fl_X2_27 dX2_findBest_11 (congrArg Prod.fst kC_75) ?_
    refine st_aload_1 h dX2_findBest_14 ?_
    refine st_aload_2 h dX2_findBest_15 ?_
    obtain ⟨x1, hx1, hF⟩ := bI hF
    refine st_cVv (vs := [.ref a1, .ref a2]) (st := []) h (w_X8_begin hx1) mi_X8_begin mv_X8_begin ml_X2_39 dX2_findBest_16 kC_63 rfl ⟨Nat.le_of_ble_eq_true rfl, Nat.le_of_ble_eq_true rfl⟩ (Nat.le_of_ble_eq_true rfl) rfl ?_
    refine st_aload_0 h dX2_findBest_19 ?_
    refine gX2_0 h fl_X2_27 dX2_findBest_20 (congrArg Prod.fst kC_75) ?_
    refine st_aload_1 h dX2_findBest_23 ?_
    obtain ⟨g1, hF⟩ := gI hF
    refine gX9_7 h fl_X2_45 dX2_findBest_24 g1 ?_
    refine st_aload_0 h dX2_findBest_27 ?_
    refine gX2_1 h fl_X2_12 dX2_findBest_28 (congrArg Prod.fst kC_75) ?_
    obtain ⟨x2, hx2, hF⟩ := bI hF
    refine st_cVv (vs := [.ref (a1 + 6), .ref 76]) (st := []) h (w_X8_find hx2) mi_X8_find mv_X8_find ml_X2_51 dX2_findBest_31 kC_63 rfl ⟨Nat.le_of_ble_eq_true rfl, Nat.le_of_ble_eq_true rfl⟩ (Nat.le_of_ble_eq_true rfl) rfl ?_
    refine st_aload_0 h dX2_findBest_34 ?_
    refine gX2_1 h fl_X2_12 dX2_findBest_35 (congrArg Prod.fst kC_75) ?_
    cases hF
    exact st_aret h hr dX2_findBest_38
set_option maxRecDepth 100000 in
set_option maxHeartbeats 4000000 in
theorem w_X11_worthOf {l : Launch} {G : Gv} {σ : Sto} {a1 : Nat} {z : (Int32 × Sto)} (hF : F_X11_worthOf σ a1 = some z) : Con l yX11_worthOf cX11_worthOf 2 (some .int) 2 G shC νC [.ref 0, .ref a1] (ovC σ) (some (.int z.1)) (ovC z.2) := by
  rw [F_X11_worthOf] at hF
  refine Con_enter (own := RX11) 0 (lv := [some (.ref 0), some (.ref a1)]) mi_X11_worthOf.2.2.2 rfl (Nat.le_of_ble_eq_true rfl) rfl (fun h hr hin => ?_)
  refine st_aload_1 h dX11_worthOf_0 ?_
  refine st_ifnonnull (t := 12) h dX11_worthOf_1 (by decide) ?_
  refine st_aload_0 h dX11_worthOf_12 ?_
  refine st_aload_1 h dX11_worthOf_13 ?_
  obtain ⟨g1, hF⟩ := gI hF
  refine gX7_2 h fl_X11_287 dX11_worthOf_14 g1 ?_
  obtain ⟨x1, hx1, hF⟩ := bI hF
  refine st_cVi (vs := [.int (σ.1 a1 2)]) (st := []) h (w_X11_answer hx1) mi_X11_answer mv_X11_answer ml_X11_125 dX11_worthOf_17 kC_0 rfl ⟨Nat.le_of_ble_eq_true rfl, Nat.le_of_ble_eq_true rfl⟩ (Nat.le_of_ble_eq_true rfl) rfl ?_
  cases hF
  exact st_iret h hr dX11_worthOf_20
set_option maxRecDepth 100000 in
set_option maxHeartbeats 4000000 in
theorem w_X11_best {l : Launch} {G : Gv} {σ : Sto} {z : (Int32 × Sto)} (hF : F_X11_best σ  = some z) : Con l yX11_best cX11_best 1 (some .int) 12 G shC νC [.ref 0] (ovC σ) (some (.int z.1)) (ovC z.2) := by
  rw [F_X11_best] at hF
  refine Con_enter (own := RX11) 0 (lv := [some (.ref 0)]) mi_X11_best.2.2.2 rfl (Nat.le_of_ble_eq_true rfl) rfl (fun h hr hin => ?_)
  refine st_aload_0 h dX11_best_0 ?_
  refine st_aload_0 h dX11_best_1 ?_
  refine gX11_13 h fl_X11_131 dX11_best_2 (congrArg Prod.fst kC_0) ?_
  refine st_if_eq (t := 26) h dX11_best_5 (by decide) (fun q1 => ?_) (fun q1 => ?_)
  · have hF := pI q1 hF
    refine st_null h dX11_best_26 ?_
    obtain ⟨x1, hx1, hF⟩ := bI hF
    refine st_cVi (vs := [.null]) (st := []) h (w_X11_worthOf_N1 hx1) mi_X11_worthOf mv_X11_worthOf ml_X11_224 dX11_best_27 kC_0 rfl ⟨Nat.le_of_ble_eq_true rfl, Nat.le_of_ble_eq_true rfl⟩ (Nat.le_of_ble_eq_true rfl) rfl ?_
    cases hF
    exact st_iret h hr dX11_best_30
  · have hF := qI q1 hF
    refine st_aload_0 h dX11_best_8 ?_
    refine gX11_7 h fl_X11_59 dX11_best_9 (congrArg Prod.fst kC_0) ?_
    refine st_aload_0 h dX11_best_12 ?_
    obtain ⟨x2, hx2, hF⟩ := bI hF
    refine gX11_11 h fl_X11_83 dX11_best_13 hx2 ?_
    refine st_aload_0 h dX11_best_16 ?_
    refine gX11_2 h fl_X11_23 dX11_best_17 (congrArg Prod.fst kC_0) ?_
    obtain ⟨x3, hx3, hF⟩ := bI hF
    refine st_cVr (vs := [.ref x2, .ref 3]) (st := [.ref 0]) h (w_X2_findBest hx3) mi_X2_findBest mv_X2_findBest ml_X11_220 dX11_best_20 kC_75 rfl ⟨Nat.le_of_ble_eq_true rfl, Nat.le_of_ble_eq_true rfl⟩ (Nat.le_of_ble_eq_true rfl) rfl ?_
    refine st_goto (t := 27) h dX11_best_23 (by decide) ?_
    obtain ⟨x4, hx4, hF⟩ := bI hF
    refine st_cVi (vs := [.ref x3.1]) (st := []) h (w_X11_worthOf hx4) mi_X11_worthOf mv_X11_worthOf ml_X11_224 dX11_best_27 kC_0 rfl ⟨Nat.le_of_ble_eq_true rfl, Nat.le_of_ble_eq_true rfl⟩ (Nat.le_of_ble_eq_true rfl) rfl ?_
    cases hF
    exact st_iret h hr dX11_best_30
set_option maxRecDepth 100000 in
set_option maxHeartbeats 4000000 in
theorem w_X11_priceIn {l : Launch} {G : Gv} {σ : Sto} {a1 : Nat} {i2 : Int32} {z : (Int32 × Sto)} (hF : F_X11_priceIn σ a1 i2 = some z) : Con l yX11_priceIn cX11_priceIn 3 (some .int) 2 G shC νC [.ref 0, .ref a1, .int i2] (ovC σ) (some (.int z.1)) (ovC z.2) := by
  rw [F_X11_priceIn] at hF
  refine Con_enter (own := RX11) 0 (lv := [some (.ref 0), some (.ref a1), some (.int i2)]) mi_X11_priceIn.2.2.2 rfl (Nat.le_of_ble_eq_true rfl) rfl (fun h hr hin => ?_)
  refine st_aload_1 h dX11_priceIn_0 ?_
  refine st_ifnonnull (t := 12) h dX11_priceIn_1 (by decide) ?_
  refine st_aload_0 h dX11_priceIn_12 ?_
  refine st_aload_1 h dX11_priceIn_13 ?_
  obtain ⟨g1, hF⟩ := gI hF
  refine gX7_3 h fl_X11_290 dX11_priceIn_14 g1 ?_
  refine st_iload_2 h dX11_priceIn_17 ?_
  obtain ⟨g2, hF⟩ := gI hF
  refine iaC h dX11_priceIn_18 (sk_7_3 g1) g2 ?_
  obtain ⟨x1, hx1, hF⟩ := bI hF
  refine st_cVi (vs := [.int (σ.1 (a1 + 1) (ix i2))]) (st := []) h (w_X11_answer hx1) mi_X11_answer mv_X11_answer ml_X11_125 dX11_priceIn_19 kC_0 rfl ⟨Nat.le_of_ble_eq_true rfl, Nat.le_of_ble_eq_true rfl⟩ (Nat.le_of_ble_eq_true rfl) rfl ?_
  cases hF
  exact st_iret h hr dX11_priceIn_22
set_option maxRecDepth 100000 in
set_option maxHeartbeats 4000000 in
theorem w_X11_priceIn_N1 {l : Launch} {G : Gv} {σ : Sto} {i2 : Int32} {z : (Int32 × Sto)} (hF : F_X11_priceIn_N1 σ i2 = some z) : Con l yX11_priceIn cX11_priceIn 3 (some .int) 2 G shC νC [.ref 0, .null, .int i2] (ovC σ) (some (.int z.1)) (ovC z.2) := by
  rw [F_X11_priceIn_N1] at hF
  refine Con_enter (own := RX11) 0 (lv := [some (.ref 0), some (.null), some (.int i2)]) mi_X11_priceIn.2.2.2 rfl (Nat.le_of_ble_eq_true rfl) rfl (fun h hr hin => ?_)
  refine st_zload_1 h dX11_priceIn_0 ?_
  refine st_ifnonnullN h dX11_priceIn_1 ?_
  refine st_aload_0 h dX11_priceIn_4 ?_
  refine st_ic_1 h dX11_priceIn_5 ?_
  obtain ⟨x1, hx1, hF⟩ := bI hF
  refine st_cVi (vs := [.int 1]) (st := []) h (w_X11_refuse hx1) mi_X11_refuse mv_X11_refuse ml_X11_99 dX11_priceIn_6 kC_0 rfl ⟨Nat.le_of_ble_eq_true rfl, Nat.le_of_ble_eq_true rfl⟩ (Nat.le_of_ble_eq_true rfl) rfl ?_
  refine st_goto (t := 22) h dX11_priceIn_9 (by decide) ?_
  cases hF
  exact st_iret h hr dX11_priceIn_22
set_option maxRecDepth 100000 in
set_option maxHeartbeats 4000000 in
theorem w_X11_bestOf {l : Launch} {G : Gv} {σ : Sto} {i1 : Int32} {z : (Int32 × Sto)} (hF : F_X11_bestOf σ i1 = some z) : Con l yX11_bestOf cX11_bestOf 2 (some .int) 12 G shC νC [.ref 0, .int i1] (ovC σ) (some (.int z.1)) (ovC z.2) := by
  rw [F_X11_bestOf] at hF
  refine Con_enter (own := RX11) 0 (lv := [some (.ref 0), some (.int i1)]) mi_X11_bestOf.2.2.2 rfl (Nat.le_of_ble_eq_true rfl) rfl (fun h hr hin => ?_)
  refine st_aload_0 h dX11_bestOf_0 ?_
  refine st_aload_0 h dX11_bestOf_1 ?_
  refine st_iload_1 h dX11_bestOf_2 ?_
  obtain ⟨x1, hx1, hF⟩ := bI hF
  refine st_cVi (vs := [.int i1]) (st := [.ref 0]) h (w_X11_noService hx1) mi_X11_noService mv_X11_noService ml_X11_176 dX11_bestOf_3 kC_0 rfl ⟨Nat.le_of_ble_eq_true rfl, Nat.le_of_ble_eq_true rfl⟩ (Nat.le_of_ble_eq_true rfl) rfl ?_
  refine st_if_eq (t := 13) h dX11_bestOf_6 (by decide) (fun q1 => ?_) (fun q1 => ?_)
  · have hF := pI q1 hF
    refine st_aload_0 h dX11_bestOf_13 ?_
    refine gX11_7 h fl_X11_59 dX11_bestOf_14 (congrArg Prod.fst kC_0) ?_
    refine st_aload_0 h dX11_bestOf_17 ?_
    obtain ⟨x2, hx2, hF⟩ := bI hF
    refine gX11_11 h fl_X11_83 dX11_bestOf_18 hx2 ?_
    refine st_aload_0 h dX11_bestOf_21 ?_
    refine gX11_2 h fl_X11_23 dX11_bestOf_22 (congrArg Prod.fst kC_0) ?_
    obtain ⟨x3, hx3, hF⟩ := bI hF
    refine st_cVr (vs := [.ref x2, .ref 3]) (st := [.ref 0]) h (w_X2_findBest hx3) mi_X2_findBest mv_X2_findBest ml_X11_220 dX11_bestOf_25 kC_75 rfl ⟨Nat.le_of_ble_eq_true rfl, Nat.le_of_ble_eq_true rfl⟩ (Nat.le_of_ble_eq_true rfl) rfl ?_
    refine st_iload_1 h dX11_bestOf_28 ?_
    obtain ⟨x4, hx4, hF⟩ := bI hF
    refine st_cVi (vs := [.ref x3.1, .int i1]) (st := []) h (w_X11_priceIn hx4) mi_X11_priceIn mv_X11_priceIn ml_X11_228 dX11_bestOf_29 kC_0 rfl ⟨Nat.le_of_ble_eq_true rfl, Nat.le_of_ble_eq_true rfl⟩ (Nat.le_of_ble_eq_true rfl) rfl ?_
    cases hF
    exact st_iret h hr dX11_bestOf_32
  · have hF := qI q1 hF
    refine st_null h dX11_bestOf_9 ?_
    refine st_goto (t := 28) h dX11_bestOf_10 (by decide) ?_
    refine st_iload_1 h dX11_bestOf_28 ?_
    obtain ⟨x5, hx5, hF⟩ := bI hF
    refine st_cVi (vs := [.null, .int i1]) (st := []) h (w_X11_priceIn_N1 hx5) mi_X11_priceIn mv_X11_priceIn ml_X11_228 dX11_bestOf_29 kC_0 rfl ⟨Nat.le_of_ble_eq_true rfl, Nat.le_of_ble_eq_true rfl⟩ (Nat.le_of_ble_eq_true rfl) rfl ?_
    cases hF
    exact st_iret h hr dX11_bestOf_32
set_option maxRecDepth 100000 in
set_option maxHeartbeats 4000000 in
theorem w_X2_findFair {l : Launch} {G : Gv} {σ : Sto} {a1 : Nat} {a2 : Nat} {z : (Nat × Sto)} (hF : F_X2_findFair σ a1 a2 = some z) : Con l yX2_findFair cX2_findFair 3 (some (.object "BasketCap$Row")) 11 G shC νC [.ref 75, .ref a1, .ref a2] (ovC σ) (some (.ref z.1)) (ovC z.2) := by
  rw [F_X2_findFair] at hF
  refine Con_enter (own := RX2) 0 (lv := [some (.ref 75), some (.ref a1), some (.ref a2)]) mi_X2_findFair.2.2.2 rfl (Nat.le_of_ble_eq_true rfl) rfl (fun h hr hin => ?_)
  refine st_aload_0 h dX2_findFair_0 ?_
  refine gX2_2 h fl_X2_18 dX2_findFair_1 (congrArg Prod.fst kC_75) ?_
  refine gX7_0 h fl_X2_31 dX2_findFair_4 (congrArg Prod.fst kC_78) ?_
  refine st_if_ne (t := 34) h dX2_findFair_7 (by decide) (fun q1 => ?_) (fun q1 => ?_)
  · have hF := qI q1 hF
    refine st_aload_0 h dX2_findFair_34 ?_
    refine gX2_2 h fl_X2_18 dX2_findFair_35 (congrArg Prod.fst kC_75) ?_
    cases hF
    exact st_aret h hr dX2_findFair_38
  · have hF := pI q1 hF
    refine st_aload_0 h dX2_findFair_10 ?_
    refine gX2_0 h fl_X2_27 dX2_findFair_11 (congrArg Prod.fst kC_75) ?_
    refine st_aload_1 h dX2_findFair_14 ?_
    refine st_aload_2 h dX2_findFair_15 ?_
    obtain ⟨x1, hx1, hF⟩ := bI hF
    refine st_cVv (vs := [.ref a1, .ref a2]) (st := []) h (w_X8_begin hx1) mi_X8_begin mv_X8_begin ml_X2_39 dX2_findFair_16 kC_63 rfl ⟨Nat.le_of_ble_eq_true rfl, Nat.le_of_ble_eq_true rfl⟩ (Nat.le_of_ble_eq_true rfl) rfl ?_
    refine st_aload_0 h dX2_findFair_19 ?_
    refine gX2_0 h fl_X2_27 dX2_findFair_20 (congrArg Prod.fst kC_75) ?_
    refine st_aload_1 h dX2_findFair_23 ?_
    obtain ⟨g1, hF⟩ := gI hF
    refine gX9_8 h fl_X2_55 dX2_findFair_24 g1 ?_
    refine st_aload_0 h dX2_findFair_27 ?_
    refine gX2_2 h fl_X2_18 dX2_findFair_28 (congrArg Prod.fst kC_75) ?_
    obtain ⟨x2, hx2, hF⟩ := bI hF
    refine st_cVv (vs := [.ref (a1 + 7), .ref 78]) (st := []) h (w_X8_find hx2) mi_X8_find mv_X8_find ml_X2_51 dX2_findFair_31 kC_63 rfl ⟨Nat.le_of_ble_eq_true rfl, Nat.le_of_ble_eq_true rfl⟩ (Nat.le_of_ble_eq_true rfl) rfl ?_
    refine st_aload_0 h dX2_findFair_34 ?_
    refine gX2_2 h fl_X2_18 dX2_findFair_35 (congrArg Prod.fst kC_75) ?_
    cases hF
    exact st_aret h hr dX2_findFair_38
set_option maxRecDepth 100000 in
set_option maxHeartbeats 4000000 in
theorem w_X11_fair {l : Launch} {G : Gv} {σ : Sto} {z : (Int32 × Sto)} (hF : F_X11_fair σ  = some z) : Con l yX11_fair cX11_fair 1 (some .int) 12 G shC νC [.ref 0] (ovC σ) (some (.int z.1)) (ovC z.2) := by
  rw [F_X11_fair] at hF
  refine Con_enter (own := RX11) 0 (lv := [some (.ref 0)]) mi_X11_fair.2.2.2 rfl (Nat.le_of_ble_eq_true rfl) rfl (fun h hr hin => ?_)
  refine st_aload_0 h dX11_fair_0 ?_
  refine st_aload_0 h dX11_fair_1 ?_
  refine gX11_13 h fl_X11_131 dX11_fair_2 (congrArg Prod.fst kC_0) ?_
  refine st_if_eq (t := 26) h dX11_fair_5 (by decide) (fun q1 => ?_) (fun q1 => ?_)
  · have hF := pI q1 hF
    refine st_null h dX11_fair_26 ?_
    obtain ⟨x1, hx1, hF⟩ := bI hF
    refine st_cVi (vs := [.null]) (st := []) h (w_X11_worthOf_N1 hx1) mi_X11_worthOf mv_X11_worthOf ml_X11_224 dX11_fair_27 kC_0 rfl ⟨Nat.le_of_ble_eq_true rfl, Nat.le_of_ble_eq_true rfl⟩ (Nat.le_of_ble_eq_true rfl) rfl ?_
    cases hF
    exact st_iret h hr dX11_fair_30
  · have hF := qI q1 hF
    refine st_aload_0 h dX11_fair_8 ?_
    refine gX11_7 h fl_X11_59 dX11_fair_9 (congrArg Prod.fst kC_0) ?_
    refine st_aload_0 h dX11_fair_12 ?_
    obtain ⟨x2, hx2, hF⟩ := bI hF
    refine gX11_11 h fl_X11_83 dX11_fair_13 hx2 ?_
    refine st_aload_0 h dX11_fair_16 ?_
    refine gX11_2 h fl_X11_23 dX11_fair_17 (congrArg Prod.fst kC_0) ?_
    obtain ⟨x3, hx3, hF⟩ := bI hF
    refine st_cVr (vs := [.ref x2, .ref 3]) (st := [.ref 0]) h (w_X2_findFair hx3) mi_X2_findFair mv_X2_findFair ml_X11_232 dX11_fair_20 kC_75 rfl ⟨Nat.le_of_ble_eq_true rfl, Nat.le_of_ble_eq_true rfl⟩ (Nat.le_of_ble_eq_true rfl) rfl ?_
    refine st_goto (t := 27) h dX11_fair_23 (by decide) ?_
    obtain ⟨x4, hx4, hF⟩ := bI hF
    refine st_cVi (vs := [.ref x3.1]) (st := []) h (w_X11_worthOf hx4) mi_X11_worthOf mv_X11_worthOf ml_X11_224 dX11_fair_27 kC_0 rfl ⟨Nat.le_of_ble_eq_true rfl, Nat.le_of_ble_eq_true rfl⟩ (Nat.le_of_ble_eq_true rfl) rfl ?_
    cases hF
    exact st_iret h hr dX11_fair_30
set_option maxRecDepth 100000 in
set_option maxHeartbeats 4000000 in
theorem w_X11_fairOf {l : Launch} {G : Gv} {σ : Sto} {i1 : Int32} {z : (Int32 × Sto)} (hF : F_X11_fairOf σ i1 = some z) : Con l yX11_fairOf cX11_fairOf 2 (some .int) 12 G shC νC [.ref 0, .int i1] (ovC σ) (some (.int z.1)) (ovC z.2) := by
  rw [F_X11_fairOf] at hF
  refine Con_enter (own := RX11) 0 (lv := [some (.ref 0), some (.int i1)]) mi_X11_fairOf.2.2.2 rfl (Nat.le_of_ble_eq_true rfl) rfl (fun h hr hin => ?_)
  refine st_aload_0 h dX11_fairOf_0 ?_
  refine st_aload_0 h dX11_fairOf_1 ?_
  refine st_iload_1 h dX11_fairOf_2 ?_
  obtain ⟨x1, hx1, hF⟩ := bI hF
  refine st_cVi (vs := [.int i1]) (st := [.ref 0]) h (w_X11_noService hx1) mi_X11_noService mv_X11_noService ml_X11_176 dX11_fairOf_3 kC_0 rfl ⟨Nat.le_of_ble_eq_true rfl, Nat.le_of_ble_eq_true rfl⟩ (Nat.le_of_ble_eq_true rfl) rfl ?_
  refine st_if_eq (t := 13) h dX11_fairOf_6 (by decide) (fun q1 => ?_) (fun q1 => ?_)
  · have hF := pI q1 hF
    refine st_aload_0 h dX11_fairOf_13 ?_
    refine gX11_7 h fl_X11_59 dX11_fairOf_14 (congrArg Prod.fst kC_0) ?_
    refine st_aload_0 h dX11_fairOf_17 ?_
    obtain ⟨x2, hx2, hF⟩ := bI hF
    refine gX11_11 h fl_X11_83 dX11_fairOf_18 hx2 ?_
    refine st_aload_0 h dX11_fairOf_21 ?_
    refine gX11_2 h fl_X11_23 dX11_fairOf_22 (congrArg Prod.fst kC_0) ?_
    obtain ⟨x3, hx3, hF⟩ := bI hF
    refine st_cVr (vs := [.ref x2, .ref 3]) (st := [.ref 0]) h (w_X2_findFair hx3) mi_X2_findFair mv_X2_findFair ml_X11_232 dX11_fairOf_25 kC_75 rfl ⟨Nat.le_of_ble_eq_true rfl, Nat.le_of_ble_eq_true rfl⟩ (Nat.le_of_ble_eq_true rfl) rfl ?_
    refine st_iload_1 h dX11_fairOf_28 ?_
    obtain ⟨x4, hx4, hF⟩ := bI hF
    refine st_cVi (vs := [.ref x3.1, .int i1]) (st := []) h (w_X11_priceIn hx4) mi_X11_priceIn mv_X11_priceIn ml_X11_228 dX11_fairOf_29 kC_0 rfl ⟨Nat.le_of_ble_eq_true rfl, Nat.le_of_ble_eq_true rfl⟩ (Nat.le_of_ble_eq_true rfl) rfl ?_
    cases hF
    exact st_iret h hr dX11_fairOf_32
  · have hF := qI q1 hF
    refine st_null h dX11_fairOf_9 ?_
    refine st_goto (t := 28) h dX11_fairOf_10 (by decide) ?_
    refine st_iload_1 h dX11_fairOf_28 ?_
    obtain ⟨x5, hx5, hF⟩ := bI hF
    refine st_cVi (vs := [.null, .int i1]) (st := []) h (w_X11_priceIn_N1 hx5) mi_X11_priceIn mv_X11_priceIn ml_X11_228 dX11_fairOf_29 kC_0 rfl ⟨Nat.le_of_ble_eq_true rfl, Nat.le_of_ble_eq_true rfl⟩ (Nat.le_of_ble_eq_true rfl) rfl ?_
    cases hF
    exact st_iret h hr dX11_fairOf_32
set_option maxRecDepth 100000 in
set_option maxHeartbeats 4000000 in
theorem w_X8_countFrom_76 {p : Program} {l : Launch} {e : Env} {s : State} {m : MethodId} {args : Array Value} {below : List Frame} {meth : Method} {c : Code} {G : Gv} (h : Cx p s m args meth c G cX8_countFrom 8 RX8) (hr : meth.sig.returnType = (some .int)) {d : Nat} {kr : Sto → Int32 → Int32 → Option Int32} (Hr : ∀ (σ : Sto) (i1 : Int32) (i2 : Int32) (z : Int32), kr σ i1 i2 = some z → Con l yX8_countFrom cX8_countFrom 8 (some .int) (d + 1) G shC νC [.ref 63, .int i1, .int i2] (ovC σ) (some (.int z)) (ovC σ)) : ∀ (n : Nat) (σ : Sto) (i1 : Int32) (i2 : Int32) (i3 : Int32) (i5 : Int32) (i6 : Int32) (i7 : Int32) (z : Int32), F_X8_countFrom_76 kr n σ i1 i2 i3 i5 i6 i7 = some z → AW p l e (rmD (d + 1 + 1) 0 0) s m args below meth c (MQ below (QcR G shC νC (some (.int z)) (ovC σ)) args s 0 0 (gA G)) 0 0 G 8 76 [some (.ref 63), some (.int i1), some (.int i2), some (.int i3), none, some (.int i5), some (.int i6), some (.int i7)] [] shC νC (ovC σ) := by
  intro n
  induction n with
  | zero => intro σ i1 i2 i3 i5 i6 i7 z hF; cases hF
  | succ n ih =>
    intro σ i1 i2 i3 i5 i6 i7 z hF
    rw [F_X8_countFrom_76] at hF
    refine st_iload_7 h dX8_countFrom_76 ?_
    refine st_iload_5 h dX8_countFrom_78 ?_
    refine st_icmp_gt (t := 107) h dX8_countFrom_80 (by decide) (fun q1 => ?_) (fun q1 => ?_)
    · have hF := pI q1 hF
      refine st_iload_6 h dX8_countFrom_107 ?_
      cases hF
      exact st_iret h hr dX8_countFrom_109
    · have hF := qI q1 hF
      refine st_iload_6 h dX8_countFrom_83 ?_
      refine st_aload_0 h dX8_countFrom_85 ?_
      refine st_iload_1 h dX8_countFrom_86 ?_
      refine st_ic_1 h dX8_countFrom_87 ?_
      refine st_iadd h dX8_countFrom_88 ?_
      refine st_iload_2 h dX8_countFrom_89 ?_
      refine st_iload_7 h dX8_countFrom_90 ?_
      refine st_iload_3 h dX8_countFrom_92 ?_
      refine st_imul h dX8_countFrom_93 ?_
      refine st_isub h dX8_countFrom_94 ?_
      obtain ⟨x1, hx1, hF⟩ := bI hF
      refine st_cVi (vs := [.int (i1 + 1), .int (i2 - (i7 * i3))]) (st := [.int i6]) h (Hr σ (i1 + 1) (i2 - (i7 * i3)) x1 hx1) mi_X8_countFrom mv_X8_countFrom ml_X8_148 dX8_countFrom_95 kC_63 rfl (by constructor <;> simp only [rmD] <;> omega) (Nat.le_of_ble_eq_true rfl) rfl ?_
      refine st_iadd h dX8_countFrom_98 ?_
      refine st_istore_6 h dX8_countFrom_99 ?_
      refine st_iinc_7 (y := i7 + 1) h dX8_countFrom_101 (ii_1 _) ?_
      refine st_goto (t := 76) h dX8_countFrom_104 (by decide) ?_
      exact st_sub (ls_s (ls_s (ls_s (ls_s (ls_n (ls_s (ls_s (ls_s ls_e)))))))) (ih σ i1 i2 i3 i5 (i6 + x1) (i7 + 1) z hF)
set_option maxRecDepth 100000 in
set_option maxHeartbeats 4000000 in
theorem w_X8_countFrom_22 {p : Program} {l : Launch} {e : Env} {s : State} {m : MethodId} {args : Array Value} {below : List Frame} {meth : Method} {c : Code} {G : Gv} (h : Cx p s m args meth c G cX8_countFrom 8 RX8) (hr : meth.sig.returnType = (some .int)) {d : Nat} {kr : Sto → Int32 → Int32 → Option Int32} (Hr : ∀ (σ : Sto) (i1 : Int32) (i2 : Int32) (z : Int32), kr σ i1 i2 = some z → Con l yX8_countFrom cX8_countFrom 8 (some .int) (d + 1) G shC νC [.ref 63, .int i1, .int i2] (ovC σ) (some (.int z)) (ovC σ)) : ∀ (σ : Sto) (i1 : Int32) (i2 : Int32) (i3 : Int32) (e0 : Int32) (z : Int32), F_X8_countFrom_22 kr σ i1 i2 i3 e0 = some z → AW p l e (rmD (d + 1 + 1) 0 0) s m args below meth c (MQ below (QcR G shC νC (some (.int z)) (ovC σ)) args s 0 0 (gA G)) 0 0 G 8 22 [some (.ref 63), some (.int i1), some (.int i2), some (.int i3), none, none, none, none] [.int e0] shC νC (ovC σ) := by
  intro σ i1 i2 i3 e0 z hF
  rw [F_X8_countFrom_22] at hF
  refine st_istore_4 h dX8_countFrom_22 ?_
  refine st_iload_3 h dX8_countFrom_24 ?_
  refine st_if_ne (t := 50) h dX8_countFrom_25 (by decide) (fun q1 => ?_) (fun q1 => ?_)
  · have hF := qI q1 hF
    refine st_bipush (v := 20) h dX8_countFrom_50 (by decide) ?_
    refine st_iload_2 h dX8_countFrom_52 ?_
    refine st_iload_3 h dX8_countFrom_53 ?_
    obtain ⟨g1, hF⟩ := gI hF
    refine st_idiv h g1 dX8_countFrom_54 ?_
    refine st_min h ml_X8_65 mt_min.1 mt_min.2.1 mt_min.2.2 dX8_countFrom_55 (by constructor <;> simp only [rmD] <;> omega) (Nat.le_of_ble_eq_true rfl) ⟨Nat.zero_le _, Nat.zero_le _⟩ ?_
    obtain ⟨v1, hv1, hF⟩ := swI hF
    refine st_nmi hv1 ?_
    refine st_istore_5 h dX8_countFrom_58 ?_
    refine st_iload_4 h dX8_countFrom_60 ?_
    refine st_if_eq (t := 70) h dX8_countFrom_62 (by decide) (fun q2 => ?_) (fun q2 => ?_)
    · have hF := pI q2 hF
      refine st_ic_0 h dX8_countFrom_70 ?_
      refine st_istore_6 h dX8_countFrom_71 ?_
      refine st_ic_0 h dX8_countFrom_73 ?_
      refine st_istore_7 h dX8_countFrom_74 ?_
      exact st_sub (ls_s (ls_s (ls_s (ls_s (ls_n (ls_s (ls_s (ls_s ls_e)))))))) (w_X8_countFrom_76 h hr Hr FU σ i1 i2 i3 v1 0 0 z hF)
    · have hF := qI q2 hF
      refine st_iload_5 h dX8_countFrom_65 ?_
      refine st_ic_1 h dX8_countFrom_67 ?_
      refine st_iadd h dX8_countFrom_68 ?_
      cases hF
      exact st_iret h hr dX8_countFrom_69
  · have hF := pI q1 hF
    refine st_iload_4 h dX8_countFrom_28 ?_
    refine st_if_eq (t := 38) h dX8_countFrom_30 (by decide) (fun q3 => ?_) (fun q3 => ?_)
    · have hF := pI q3 hF
      refine st_bipush (v := 21) h dX8_countFrom_38 (by decide) ?_
      refine st_aload_0 h dX8_countFrom_40 ?_
      refine st_iload_1 h dX8_countFrom_41 ?_
      refine st_ic_1 h dX8_countFrom_42 ?_
      refine st_iadd h dX8_countFrom_43 ?_
      refine st_iload_2 h dX8_countFrom_44 ?_
      obtain ⟨x1, hx1, hF⟩ := bI hF
      refine st_cVi (vs := [.int (i1 + 1), .int i2]) (st := [.int 21]) h (Hr σ (i1 + 1) i2 x1 hx1) mi_X8_countFrom mv_X8_countFrom ml_X8_148 dX8_countFrom_45 kC_63 rfl (by constructor <;> simp only [rmD] <;> omega) (Nat.le_of_ble_eq_true rfl) rfl ?_
      refine st_imul h dX8_countFrom_48 ?_
      cases hF
      exact st_iret h hr dX8_countFrom_49
    · have hF := qI q3 hF
      refine st_bipush (v := 21) h dX8_countFrom_33 (by decide) ?_
      refine st_goto (t := 49) h dX8_countFrom_35 (by decide) ?_
      cases hF
      exact st_iret h hr dX8_countFrom_49
set_option maxRecDepth 100000 in
set_option maxHeartbeats 4000000 in
theorem w_X8_countFrom {l : Launch} {G : Gv} : ∀ (d : Nat) (σ : Sto) (i1 : Int32) (i2 : Int32) (z : Int32), F_X8_countFrom d σ i1 i2 = some z → Con l yX8_countFrom cX8_countFrom 8 (some .int) (d + 1) G shC νC [.ref 63, .int i1, .int i2] (ovC σ) (some (.int z)) (ovC σ) := by
  intro d
  induction d with
  | zero => intro σ i1 i2 z hF; cases hF
  | succ d Hr =>
    intro σ i1 i2 z hF
    rw [F_X8_countFrom] at hF
    refine Con_enter (own := RX8) 5 (lv := [some (.ref 63), some (.int i1), some (.int i2), none, none, none, none, none]) mi_X8_countFrom.2.2.2 rfl (Nat.le_of_ble_eq_true rfl) rfl (fun h hr hin => ?_)
    refine st_aload_0 h dX8_countFrom_0 ?_
    refine gX8_2 h fl_X8_11 dX8_countFrom_1 (congrArg Prod.fst kC_63) ?_
    refine st_iload_1 h dX8_countFrom_4 ?_
    obtain ⟨g1, hF⟩ := gI hF
    refine iaC h dX8_countFrom_5 kC_64 g1 ?_
    refine st_istore_3 h dX8_countFrom_6 ?_
    refine st_iload_1 h dX8_countFrom_7 ?_
    refine st_aload_0 h dX8_countFrom_8 ?_
    refine gX8_0 h fl_X8_51 dX8_countFrom_9 (congrArg Prod.fst kC_63) ?_
    refine st_ic_1 h dX8_countFrom_12 ?_
    refine st_isub h dX8_countFrom_13 ?_
    refine st_icmp_lt (t := 21) h dX8_countFrom_14 (by decide) (fun q1 => ?_) (fun q1 => ?_)
    · have hF := pI q1 hF
      refine st_ic_0 h dX8_countFrom_21 ?_
      exact st_sub (ls_s (ls_s (ls_s (ls_s (ls_n (ls_n (ls_n (ls_n ls_e)))))))) (w_X8_countFrom_22 h hr Hr σ i1 i2 (σ.1 64 (ix i1)) 0 z hF)
    · have hF := qI q1 hF
      refine st_ic_1 h dX8_countFrom_17 ?_
      refine st_goto (t := 22) h dX8_countFrom_18 (by decide) ?_
      exact st_sub (ls_s (ls_s (ls_s (ls_s (ls_n (ls_n (ls_n (ls_n ls_e)))))))) (w_X8_countFrom_22 h hr Hr σ i1 i2 (σ.1 64 (ix i1)) 1 z hF)
set_option maxRecDepth 100000 in
set_option maxHeartbeats 4000000 in
theorem w_X8_count {l : Launch} {G : Gv} {σ : Sto} {z : Int32} (hF : F_X8_count σ  = some z) : Con l yX8_count cX8_count 1 (some .int) 8 G shC νC [.ref 63] (ovC σ) (some (.int z)) (ovC σ) := by
  rw [F_X8_count] at hF
  refine Con_enter (own := RX8) 0 (lv := [some (.ref 63)]) mi_X8_count.2.2.2 rfl (Nat.le_of_ble_eq_true rfl) rfl (fun h hr hin => ?_)
  refine st_aload_0 h dX8_count_0 ?_
  refine st_ic_0 h dX8_count_1 ?_
  refine st_aload_0 h dX8_count_2 ?_
  refine gX8_3 h fl_X8_15 dX8_count_3 (congrArg Prod.fst kC_63) ?_
  refine st_ic_0 h dX8_count_6 ?_
  refine iaC h dX8_count_7 kC_65 (by decide) ?_
  obtain ⟨x1, hx1, hF⟩ := bI hF
  refine st_cVi (vs := [.int 0, .int (σ.1 65 (ix 0))]) (st := []) h (w_X8_countFrom 6 σ 0 (σ.1 65 (ix 0)) x1 hx1) mi_X8_countFrom mv_X8_countFrom ml_X8_148 dX8_count_8 kC_63 rfl ⟨Nat.le_of_ble_eq_true rfl, Nat.le_of_ble_eq_true rfl⟩ (Nat.le_of_ble_eq_true rfl) rfl ?_
  cases hF
  exact st_iret h hr dX8_count_11
set_option maxRecDepth 100000 in
set_option maxHeartbeats 4000000 in
theorem w_X2_countRows {l : Launch} {G : Gv} {σ : Sto} {a1 : Nat} {a2 : Nat} {z : (Int32 × Sto)} (hF : F_X2_countRows σ a1 a2 = some z) : Con l yX2_countRows cX2_countRows 3 (some .int) 9 G shC νC [.ref 75, .ref a1, .ref a2] (ovC σ) (some (.int z.1)) (ovC z.2) := by
  rw [F_X2_countRows] at hF
  refine Con_enter (own := RX2) 0 (lv := [some (.ref 75), some (.ref a1), some (.ref a2)]) mi_X2_countRows.2.2.2 rfl (Nat.le_of_ble_eq_true rfl) rfl (fun h hr hin => ?_)
  refine st_aload_0 h dX2_countRows_0 ?_
  refine gX2_6 h fl_X2_35 dX2_countRows_1 (congrArg Prod.fst kC_75) ?_
  refine st_ic_m1 h dX2_countRows_4 ?_
  refine st_icmp_ne (t := 28) h dX2_countRows_5 (by decide) (fun q1 => ?_) (fun q1 => ?_)
  · have hF := qI q1 hF
    refine st_aload_0 h dX2_countRows_28 ?_
    refine gX2_6 h fl_X2_35 dX2_countRows_29 (congrArg Prod.fst kC_75) ?_
    cases hF
    exact st_iret h hr dX2_countRows_32
  · have hF := pI q1 hF
    refine st_aload_0 h dX2_countRows_8 ?_
    refine gX2_0 h fl_X2_27 dX2_countRows_9 (congrArg Prod.fst kC_75) ?_
    refine st_aload_1 h dX2_countRows_12 ?_
    refine st_aload_2 h dX2_countRows_13 ?_
    obtain ⟨x1, hx1, hF⟩ := bI hF
    refine st_cVv (vs := [.ref a1, .ref a2]) (st := []) h (w_X8_begin hx1) mi_X8_begin mv_X8_begin ml_X2_39 dX2_countRows_14 kC_63 rfl ⟨Nat.le_of_ble_eq_true rfl, Nat.le_of_ble_eq_true rfl⟩ (Nat.le_of_ble_eq_true rfl) rfl ?_
    refine st_aload_0 h dX2_countRows_17 ?_
    refine st_aload_0 h dX2_countRows_18 ?_
    refine gX2_0 h fl_X2_27 dX2_countRows_19 (congrArg Prod.fst kC_75) ?_
    obtain ⟨x2, hx2, hF⟩ := bI hF
    refine st_cVi (vs := []) (st := [.ref 75]) h (w_X8_count hx2) mi_X8_count mv_X8_count ml_X2_77 dX2_countRows_22 kC_63 rfl ⟨Nat.le_of_ble_eq_true rfl, Nat.le_of_ble_eq_true rfl⟩ (Nat.le_of_ble_eq_true rfl) rfl ?_
    obtain ⟨s1, hs1, hF⟩ := swI hF
    refine pX2_6 h fl_X2_35 dX2_countRows_25 (congrArg Prod.fst kC_75) hs1 ?_
    refine st_aload_0 h dX2_countRows_28 ?_
    refine gX2_6 h fl_X2_35 dX2_countRows_29 (congrArg Prod.fst kC_75) ?_
    cases hF
    exact st_iret h hr dX2_countRows_32
set_option maxRecDepth 100000 in
set_option maxHeartbeats 4000000 in
theorem w_X11_rows {l : Launch} {G : Gv} {σ : Sto} {z : (Int32 × Sto)} (hF : F_X11_rows σ  = some z) : Con l yX11_rows cX11_rows 1 (some .int) 10 G shC νC [.ref 0] (ovC σ) (some (.int z.1)) (ovC z.2) := by
  rw [F_X11_rows] at hF
  refine Con_enter (own := RX11) 0 (lv := [some (.ref 0)]) mi_X11_rows.2.2.2 rfl (Nat.le_of_ble_eq_true rfl) rfl (fun h hr hin => ?_)
  refine st_aload_0 h dX11_rows_0 ?_
  refine gX11_13 h fl_X11_131 dX11_rows_1 (congrArg Prod.fst kC_0) ?_
  refine st_if_ne (t := 13) h dX11_rows_4 (by decide) (fun q1 => ?_) (fun q1 => ?_)
  · have hF := qI q1 hF
    refine st_aload_0 h dX11_rows_13 ?_
    refine st_aload_0 h dX11_rows_14 ?_
    refine gX11_7 h fl_X11_59 dX11_rows_15 (congrArg Prod.fst kC_0) ?_
    refine st_aload_0 h dX11_rows_18 ?_
    obtain ⟨x1, hx1, hF⟩ := bI hF
    refine gX11_11 h fl_X11_83 dX11_rows_19 hx1 ?_
    refine st_aload_0 h dX11_rows_22 ?_
    refine gX11_2 h fl_X11_23 dX11_rows_23 (congrArg Prod.fst kC_0) ?_
    obtain ⟨x2, hx2, hF⟩ := bI hF
    refine st_cVi (vs := [.ref x1, .ref 3]) (st := [.ref 0]) h (w_X2_countRows hx2) mi_X2_countRows mv_X2_countRows ml_X11_235 dX11_rows_26 kC_75 rfl ⟨Nat.le_of_ble_eq_true rfl, Nat.le_of_ble_eq_true rfl⟩ (Nat.le_of_ble_eq_true rfl) rfl ?_
    obtain ⟨x3, hx3, hF⟩ := bI hF
    refine st_cVi (vs := [.int x2.1]) (st := []) h (w_X11_answer hx3) mi_X11_answer mv_X11_answer ml_X11_125 dX11_rows_29 kC_0 rfl ⟨Nat.le_of_ble_eq_true rfl, Nat.le_of_ble_eq_true rfl⟩ (Nat.le_of_ble_eq_true rfl) rfl ?_
    cases hF
    exact st_iret h hr dX11_rows_32
  · have hF := pI q1 hF
    refine st_aload_0 h dX11_rows_7 ?_
    refine st_ic_1 h dX11_rows_8 ?_
    obtain ⟨x4, hx4, hF⟩ := bI hF
    refine st_cVi (vs := [.int 1]) (st := []) h (w_X11_refuse hx4) mi_X11_refuse mv_X11_refuse ml_X11_99 dX11_rows_9 kC_0 rfl ⟨Nat.le_of_ble_eq_true rfl, Nat.le_of_ble_eq_true rfl⟩ (Nat.le_of_ble_eq_true rfl) rfl ?_
    cases hF
    exact st_iret h hr dX11_rows_12
set_option maxRecDepth 100000 in
set_option maxHeartbeats 4000000 in
theorem w_X11_freely_55 {p : Program} {l : Launch} {e : Env} {s : State} {m : MethodId} {args : Array Value} {below : List Frame} {meth : Method} {c : Code} {G : Gv} (h : Cx p s m args meth c G cX11_freely 6 RX11) (hr : meth.sig.returnType = (some .int)) : ∀ (n : Nat) (σ : Sto) (i1 : Int32) (i2 : Int32) (i3 : Int32) (i4 : Int32) (i5 : Int32) (z : (Int32 × Sto)), F_X11_freely_55 n σ i1 i2 i3 i4 i5 = some z → AW p l e (rmD 5 0 0) s m args below meth c (MQ below (QcR G shC νC (some (.int z.1)) (ovC z.2)) args s 0 0 (gA G)) 0 0 G 6 55 [some (.ref 0), some (.int i1), some (.int i2), some (.int i3), some (.int i4), some (.int i5)] [] shC νC (ovC σ) := by
  intro n
  induction n with
  | zero => intro σ i1 i2 i3 i4 i5 z hF; cases hF
  | succ n ih =>
    intro σ i1 i2 i3 i4 i5 z hF
    rw [F_X11_freely_55] at hF
    refine st_iload_5 h dX11_freely_55 ?_
    refine st_bipush (v := 20) h dX11_freely_57 (by decide) ?_
    refine st_icmp_gt (t := 108) h dX11_freely_59 (by decide) (fun q1 => ?_) (fun q1 => ?_)
    · have hF := pI q1 hF
      refine st_aload_0 h dX11_freely_108 ?_
      refine st_iload_4 h dX11_freely_109 ?_
      obtain ⟨x1, hx1, hF⟩ := bI hF
      refine st_cVi (vs := [.int i4]) (st := []) h (w_X11_answer hx1) mi_X11_answer mv_X11_answer ml_X11_125 dX11_freely_111 kC_0 rfl ⟨Nat.le_of_ble_eq_true rfl, Nat.le_of_ble_eq_true rfl⟩ (Nat.le_of_ble_eq_true rfl) rfl ?_
      cases hF
      exact st_iret h hr dX11_freely_114
    · have hF := qI q1 hF
      refine st_aload_0 h dX11_freely_62 ?_
      obtain ⟨x2, hx2, hF⟩ := bI hF
      refine gX11_11 h fl_X11_83 dX11_freely_63 hx2 ?_
      obtain ⟨g1, hF⟩ := gI hF
      refine gX9_7 h fl_X11_207 dX11_freely_66 g1 ?_
      refine st_iload_1 h dX11_freely_69 ?_
      refine st_bipush (v := 21) h dX11_freely_70 (by decide) ?_
      refine st_imul h dX11_freely_72 ?_
      refine st_iload_5 h dX11_freely_73 ?_
      refine st_iadd h dX11_freely_75 ?_
      obtain ⟨g2, hF⟩ := gI hF
      refine iaC h dX11_freely_76 (sk_9_7 g1) g2 ?_
      refine st_iload_3 h dX11_freely_77 ?_
      refine st_icmp_lt (t := 102) h dX11_freely_78 (by decide) (fun q2 => ?_) (fun q2 => ?_)
      · have hF := pI q2 hF
        refine st_iinc_5 (y := i5 + 1) h dX11_freely_102 (ii_1 _) ?_
        refine st_goto (t := 55) h dX11_freely_105 (by decide) ?_
        exact st_sub (ls_s (ls_s (ls_s (ls_s (ls_s (ls_s ls_e)))))) (ih σ i1 i2 i3 i4 (i5 + 1) z hF)
      · have hF := qI q2 hF
        refine st_aload_0 h dX11_freely_81 ?_
        refine gX11_2 h fl_X11_23 dX11_freely_82 (congrArg Prod.fst kC_0) ?_
        refine st_aload_0 h dX11_freely_85 ?_
        obtain ⟨x3, hx3, hF⟩ := bI hF
        refine gX11_11 h fl_X11_83 dX11_freely_86 hx3 ?_
        refine st_iload_1 h dX11_freely_89 ?_
        refine st_iload_5 h dX11_freely_90 ?_
        obtain ⟨x4, hx4, hF⟩ := bI hF
        refine st_cVi (vs := [.ref x3, .int i1, .int i5]) (st := []) h (w_X10_spentWith hx4) mi_X10_spentWith mv_X10_spentWith ml_X11_213 dX11_freely_92 kC_3 rfl ⟨Nat.le_of_ble_eq_true rfl, Nat.le_of_ble_eq_true rfl⟩ (Nat.le_of_ble_eq_true rfl) rfl ?_
        refine st_iload_2 h dX11_freely_95 ?_
        refine st_icmp_gt (t := 102) h dX11_freely_96 (by decide) (fun q3 => ?_) (fun q3 => ?_)
        · have hF := pI q3 hF
          refine st_iinc_5 (y := i5 + 1) h dX11_freely_102 (ii_1 _) ?_
          refine st_goto (t := 55) h dX11_freely_105 (by decide) ?_
          exact st_sub (ls_s (ls_s (ls_s (ls_s (ls_s (ls_s ls_e)))))) (ih σ i1 i2 i3 i4 (i5 + 1) z hF)
        · have hF := qI q3 hF
          refine st_iinc_4 (y := i4 + 1) h dX11_freely_99 (ii_1 _) ?_
          refine st_iinc_5 (y := i5 + 1) h dX11_freely_102 (ii_1 _) ?_
          refine st_goto (t := 55) h dX11_freely_105 (by decide) ?_
          exact st_sub (ls_s (ls_s (ls_s (ls_s (ls_s (ls_s ls_e)))))) (ih σ i1 i2 i3 (i4 + 1) (i5 + 1) z hF)
set_option maxRecDepth 100000 in
set_option maxHeartbeats 4000000 in
theorem w_X11_freely {l : Launch} {G : Gv} {σ : Sto} {i1 : Int32} {z : (Int32 × Sto)} (hF : F_X11_freely σ i1 = some z) : Con l yX11_freely cX11_freely 6 (some .int) 5 G shC νC [.ref 0, .int i1] (ovC σ) (some (.int z.1)) (ovC z.2) := by
  rw [F_X11_freely] at hF
  refine Con_enter (own := RX11) 4 (lv := [some (.ref 0), some (.int i1), none, none, none, none]) mi_X11_freely.2.2.2 rfl (Nat.le_of_ble_eq_true rfl) rfl (fun h hr hin => ?_)
  refine st_aload_0 h dX11_freely_0 ?_
  refine st_iload_1 h dX11_freely_1 ?_
  obtain ⟨x1, hx1, hF⟩ := bI hF
  refine st_cVi (vs := [.int i1]) (st := []) h (w_X11_noService hx1) mi_X11_noService mv_X11_noService ml_X11_176 dX11_freely_2 kC_0 rfl ⟨Nat.le_of_ble_eq_true rfl, Nat.le_of_ble_eq_true rfl⟩ (Nat.le_of_ble_eq_true rfl) rfl ?_
  refine st_if_eq (t := 14) h dX11_freely_5 (by decide) (fun q1 => ?_) (fun q1 => ?_)
  · have hF := pI q1 hF
    refine st_aload_0 h dX11_freely_14 ?_
    refine gX11_2 h fl_X11_23 dX11_freely_15 (congrArg Prod.fst kC_0) ?_
    refine st_aload_0 h dX11_freely_18 ?_
    obtain ⟨x2, hx2, hF⟩ := bI hF
    refine gX11_11 h fl_X11_83 dX11_freely_19 hx2 ?_
    obtain ⟨x3, hx3, hF⟩ := bI hF
    refine st_cVi (vs := [.ref x2]) (st := []) h (w_X10_allowed hx3) mi_X10_allowed mv_X10_allowed ml_X11_156 dX11_freely_22 kC_3 rfl ⟨Nat.le_of_ble_eq_true rfl, Nat.le_of_ble_eq_true rfl⟩ (Nat.le_of_ble_eq_true rfl) rfl ?_
    refine st_istore_2 h dX11_freely_25 ?_
    refine st_aload_0 h dX11_freely_26 ?_
    obtain ⟨x4, hx4, hF⟩ := bI hF
    refine gX11_11 h fl_X11_83 dX11_freely_27 hx4 ?_
    obtain ⟨g1, hF⟩ := gI hF
    refine gX9_7 h fl_X11_207 dX11_freely_30 g1 ?_
    refine st_iload_1 h dX11_freely_33 ?_
    refine st_bipush (v := 21) h dX11_freely_34 (by decide) ?_
    refine st_imul h dX11_freely_36 ?_
    refine st_aload_0 h dX11_freely_37 ?_
    refine gX11_2 h fl_X11_23 dX11_freely_38 (congrArg Prod.fst kC_0) ?_
    refine gX10_3 h fl_X11_173 dX11_freely_41 (congrArg Prod.fst kC_3) ?_
    refine st_iload_1 h dX11_freely_44 ?_
    obtain ⟨g2, hF⟩ := gI hF
    refine iaC h dX11_freely_45 (sk_10_3 (congrArg Prod.fst kC_3)) g2 ?_
    refine st_iadd h dX11_freely_46 ?_
    obtain ⟨g3, hF⟩ := gI hF
    refine iaC h dX11_freely_47 (sk_9_7 g1) g3 ?_
    obtain ⟨v1, hv1, hF⟩ := swI hF
    refine st_nmi hv1 ?_
    refine st_istore_3 h dX11_freely_48 ?_
    refine st_ic_0 h dX11_freely_49 ?_
    refine st_istore_4 h dX11_freely_50 ?_
    refine st_ic_0 h dX11_freely_52 ?_
    refine st_istore_5 h dX11_freely_53 ?_
    exact st_sub (ls_s (ls_s (ls_s (ls_s (ls_s (ls_s ls_e)))))) (w_X11_freely_55 h hr FU σ i1 x3 v1 0 0 z hF)
  · have hF := qI q1 hF
    refine st_aload_0 h dX11_freely_8 ?_
    refine st_ic_1 h dX11_freely_9 ?_
    obtain ⟨x5, hx5, hF⟩ := bI hF
    refine st_cVi (vs := [.int 1]) (st := []) h (w_X11_refuse hx5) mi_X11_refuse mv_X11_refuse ml_X11_99 dX11_freely_10 kC_0 rfl ⟨Nat.le_of_ble_eq_true rfl, Nat.le_of_ble_eq_true rfl⟩ (Nat.le_of_ble_eq_true rfl) rfl ?_
    cases hF
    exact st_iret h hr dX11_freely_13
set_option maxRecDepth 100000 in
set_option maxHeartbeats 4000000 in
theorem w_X4_freeProfit_4 {p : Program} {l : Launch} {e : Env} {s : State} {m : MethodId} {args : Array Value} {below : List Frame} {meth : Method} {c : Code} {G : Gv} (h : Cx p s m args meth c G cX4_freeProfit 4 RX4) (hr : meth.sig.returnType = (some .int)) : ∀ (n : Nat) (σ : Sto) (a1 : Nat) (i2 : Int32) (i3 : Int32) (z : Int32), F_X4_freeProfit_4 n σ a1 i2 i3 = some z → AW p l e (rmD 2 0 0) s m args below meth c (MQ below (QcR G shC νC (some (.int z)) (ovC σ)) args s 0 0 (gA G)) 0 0 G 4 4 [none, some (.ref a1), some (.int i2), some (.int i3)] [] shC νC (ovC σ) := by
  intro n
  induction n with
  | zero => intro σ a1 i2 i3 z hF; cases hF
  | succ n ih =>
    intro σ a1 i2 i3 z hF
    rw [F_X4_freeProfit_4] at hF
    refine st_iload_3 h dX4_freeProfit_4 ?_
    refine st_aload_1 h dX4_freeProfit_5 ?_
    obtain ⟨g1, hF⟩ := gI hF
    refine gX9_0 h fl_X4_83 dX4_freeProfit_6 g1 ?_
    refine st_icmp_ge (t := 36) h dX4_freeProfit_9 (by decide) (fun q1 => ?_) (fun q1 => ?_)
    · have hF := pI q1 hF
      refine st_iload_2 h dX4_freeProfit_36 ?_
      cases hF
      exact st_iret h hr dX4_freeProfit_37
    · have hF := qI q1 hF
      refine st_iload_2 h dX4_freeProfit_12 ?_
      refine st_aload_1 h dX4_freeProfit_13 ?_
      refine gX9_7 h fl_X4_76 dX4_freeProfit_14 g1 ?_
      refine st_iload_3 h dX4_freeProfit_17 ?_
      refine st_bipush (v := 21) h dX4_freeProfit_18 (by decide) ?_
      refine st_imul h dX4_freeProfit_20 ?_
      refine st_aload_1 h dX4_freeProfit_21 ?_
      refine st_iload_3 h dX4_freeProfit_22 ?_
      obtain ⟨x1, hx1, hF⟩ := bI hF
      refine st_cVi (vs := [.int i3]) (st := [.int (i3 * 21), .ref (a1 + 6), .int i2]) h (w_X9_freePrice hx1) mi_X9_freePrice mv_X9_freePrice ml_X4_145 dX4_freeProfit_23 (shC_e g1) rfl ⟨Nat.le_of_ble_eq_true rfl, Nat.le_of_ble_eq_true rfl⟩ (Nat.le_of_ble_eq_true rfl) rfl ?_
      refine st_iadd h dX4_freeProfit_26 ?_
      obtain ⟨g2, hF⟩ := gI hF
      refine iaC h dX4_freeProfit_27 (sk_9_7 g1) g2 ?_
      refine st_iadd h dX4_freeProfit_28 ?_
      obtain ⟨v1, hv1, hF⟩ := swI hF
      refine st_nmi hv1 ?_
      refine st_istore_2 h dX4_freeProfit_29 ?_
      refine st_iinc_3 (y := i3 + 1) h dX4_freeProfit_30 (ii_1 _) ?_
      refine st_goto (t := 4) h dX4_freeProfit_33 (by decide) ?_
      exact st_sub (ls_n (ls_s (ls_s (ls_s ls_e)))) (ih σ a1 v1 (i3 + 1) z hF)
set_option maxRecDepth 100000 in
set_option maxHeartbeats 4000000 in
theorem w_X4_freeProfit {l : Launch} {G : Gv} {σ : Sto} {a1 : Nat} {z : Int32} (hF : F_X4_freeProfit σ a1 = some z) : Con l yX4_freeProfit cX4_freeProfit 4 (some .int) 2 G shC νC [.ref 84, .ref a1] (ovC σ) (some (.int z)) (ovC σ) := by
  rw [F_X4_freeProfit] at hF
  refine Con_enter (own := RX4) 2 (lv := [some (.ref 84), some (.ref a1), none, none]) mi_X4_freeProfit.2.2.2 rfl (Nat.le_of_ble_eq_true rfl) rfl (fun h hr hin => ?_)
  refine st_ic_0 h dX4_freeProfit_0 ?_
  refine st_istore_2 h dX4_freeProfit_1 ?_
  refine st_ic_0 h dX4_freeProfit_2 ?_
  refine st_istore_3 h dX4_freeProfit_3 ?_
  exact st_sub (ls_n (ls_s (ls_s (ls_s ls_e)))) (w_X4_freeProfit_4 h hr FU σ a1 0 0 z hF)
set_option maxRecDepth 100000 in
set_option maxHeartbeats 4000000 in
theorem w_X10_copy {l : Launch} {G : Gv} {σ : Sto} {a0 : Nat} {a1 : Nat} {z : Sto} (hF : F_X10_copy σ a0 a1 = some z) : Con l yX10_copy cX10_copy 2 none 1 G shC νC [.ref a0, .ref a1] (ovC σ) none (ovC z) := by
  rw [F_X10_copy] at hF
  refine Con_enter (own := RX10) 0 (lv := [some (.ref a0), some (.ref a1)]) mi_X10_copy.2.2.2 rfl (Nat.le_of_ble_eq_true rfl) rfl (fun h hr hin => ?_)
  refine st_aload_0 h dX10_copy_0 ?_
  refine st_aload_1 h dX10_copy_1 ?_
  obtain ⟨g1, hF⟩ := gI hF
  refine gX10_0 h fl_X10_24 dX10_copy_2 g1 ?_
  obtain ⟨g2, hF⟩ := gI hF
  obtain ⟨s1, hs1, hF⟩ := swI hF
  refine pX10_0 h fl_X10_24 dX10_copy_5 g2 hs1 ?_
  refine st_aload_0 h dX10_copy_8 ?_
  refine st_aload_1 h dX10_copy_9 ?_
  refine gX10_1 h fl_X10_28 dX10_copy_10 g1 ?_
  obtain ⟨s2, hs2, hF⟩ := swI hF
  refine pX10_1 h fl_X10_28 dX10_copy_13 g2 hs2 ?_
  refine st_aload_1 h dX10_copy_16 ?_
  refine gX10_2 h fl_X10_9 dX10_copy_17 g1 ?_
  refine st_ic_0 h dX10_copy_20 ?_
  refine st_aload_0 h dX10_copy_21 ?_
  refine gX10_2 h fl_X10_9 dX10_copy_22 g2 ?_
  refine st_ic_0 h dX10_copy_25 ?_
  refine st_ic_4 h dX10_copy_26 ?_
  obtain ⟨s3, hs3, hF⟩ := swI hF
  refine cpC h ml_X10_38 dX10_copy_27 (sk_10_2 g1) (sk_10_2 g2) (by decide) (by decide) (by decide) (by decide) (by decide) ⟨Nat.le_of_ble_eq_true rfl, Nat.le_of_ble_eq_true rfl⟩ hs3 ?_
  refine st_aload_1 h dX10_copy_30 ?_
  refine gX10_3 h fl_X10_15 dX10_copy_31 g1 ?_
  refine st_ic_0 h dX10_copy_34 ?_
  refine st_aload_0 h dX10_copy_35 ?_
  refine gX10_3 h fl_X10_15 dX10_copy_36 g2 ?_
  refine st_ic_0 h dX10_copy_39 ?_
  refine st_ic_4 h dX10_copy_40 ?_
  obtain ⟨s4, hs4, hF⟩ := swI hF
  refine cpC h ml_X10_38 dX10_copy_41 (sk_10_3 g1) (sk_10_3 g2) (by decide) (by decide) (by decide) (by decide) (by decide) ⟨Nat.le_of_ble_eq_true rfl, Nat.le_of_ble_eq_true rfl⟩ hs4 ?_
  refine st_aload_1 h dX10_copy_44 ?_
  refine gX10_4 h fl_X10_18 dX10_copy_45 g1 ?_
  refine st_ic_0 h dX10_copy_48 ?_
  refine st_aload_0 h dX10_copy_49 ?_
  refine gX10_4 h fl_X10_18 dX10_copy_50 g2 ?_
  refine st_ic_0 h dX10_copy_53 ?_
  refine st_ic_4 h dX10_copy_54 ?_
  obtain ⟨s5, hs5, hF⟩ := swI hF
  refine cpC h ml_X10_38 dX10_copy_55 (sk_10_4 g1) (sk_10_4 g2) (by decide) (by decide) (by decide) (by decide) (by decide) ⟨Nat.le_of_ble_eq_true rfl, Nat.le_of_ble_eq_true rfl⟩ hs5 ?_
  refine st_aload_1 h dX10_copy_58 ?_
  refine gX10_5 h fl_X10_21 dX10_copy_59 g1 ?_
  refine st_ic_0 h dX10_copy_62 ?_
  refine st_aload_0 h dX10_copy_63 ?_
  refine gX10_5 h fl_X10_21 dX10_copy_64 g2 ?_
  refine st_ic_0 h dX10_copy_67 ?_
  refine st_ic_4 h dX10_copy_68 ?_
  obtain ⟨s6, hs6, hF⟩ := swI hF
  refine cpC h ml_X10_38 dX10_copy_69 (sk_10_5 g1) (sk_10_5 g2) (by decide) (by decide) (by decide) (by decide) (by decide) ⟨Nat.le_of_ble_eq_true rfl, Nat.le_of_ble_eq_true rfl⟩ hs6 ?_
  cases hF
  exact st_vret h hr dX10_copy_72
set_option maxRecDepth 100000 in
set_option maxHeartbeats 4000000 in
theorem w_X10_end_40 {p : Program} {l : Launch} {e : Env} {s : State} {m : MethodId} {args : Array Value} {below : List Frame} {meth : Method} {c : Code} {G : Gv} (h : Cx p s m args meth c G cX10_end 4 RX10) (hr : meth.sig.returnType = none) : ∀ (σ : Sto) (a0 : Nat) (e0 : Nat) (e1 : Int32) (z : Sto), F_X10_end_40 σ a0 e0 e1 = some z → AW p l e (rmD 5 0 0) s m args below meth c (MQ below (QcR G shC νC none (ovC z)) args s 0 0 (gA G)) 0 0 G 4 40 [some (.ref a0), none, none, none] [.int e1, .ref e0] shC νC (ovC σ) := by
  intro σ a0 e0 e1 z hF
  rw [F_X10_end_40] at hF
  obtain ⟨g1, hF⟩ := gI hF
  obtain ⟨s1, hs1, hF⟩ := swI hF
  refine pX10_1 h fl_X10_28 dX10_end_40 g1 hs1 ?_
  refine st_aload_0 h dX10_end_43 ?_
  obtain ⟨g2, hF⟩ := gI hF
  refine gX10_3 h fl_X10_15 dX10_end_44 g2 ?_
  refine st_ic_0 h dX10_end_47 ?_
  refine st_aload_0 h dX10_end_48 ?_
  refine gX10_2 h fl_X10_9 dX10_end_49 g2 ?_
  refine st_ic_0 h dX10_end_52 ?_
  refine st_ic_4 h dX10_end_53 ?_
  obtain ⟨s2, hs2, hF⟩ := swI hF
  refine cpC h ml_X10_38 dX10_end_54 (sk_10_3 g2) (sk_10_2 g2) (by decide) (by decide) (by decide) (by decide) (by decide) ⟨Nat.le_of_ble_eq_true rfl, Nat.le_of_ble_eq_true rfl⟩ hs2 ?_
  refine st_aload_0 h dX10_end_57 ?_
  refine st_dup h rfl dX10_end_58 ?_
  refine gX10_0 h fl_X10_24 dX10_end_59 g2 ?_
  refine st_ic_1 h dX10_end_62 ?_
  refine st_iadd h dX10_end_63 ?_
  obtain ⟨s3, hs3, hF⟩ := swI hF
  refine pX10_0 h fl_X10_24 dX10_end_64 g2 hs3 ?_
  cases hF
  exact st_vret h hr dX10_end_67
set_option maxRecDepth 100000 in
set_option maxHeartbeats 4000000 in
theorem w_X10_end {l : Launch} {G : Gv} {σ : Sto} {a0 : Nat} {a1 : Nat} {z : Sto} (hF : F_X10_end σ a0 a1 = some z) : Con l yX10_end cX10_end 4 none 5 G shC νC [.ref a0, .ref a1] (ovC σ) none (ovC z) := by
  rw [F_X10_end] at hF
  refine Con_enter (own := RX10) 2 (lv := [some (.ref a0), some (.ref a1), none, none]) mi_X10_end.2.2.2 rfl (Nat.le_of_ble_eq_true rfl) rfl (fun h hr hin => ?_)
  refine st_aload_0 h dX10_end_0 ?_
  refine st_aload_1 h dX10_end_1 ?_
  obtain ⟨g1, hF⟩ := gI hF
  obtain ⟨x1, hx1, hF⟩ := bI hF
  refine st_cVi (vs := [.ref a1]) (st := []) h (w_X10_allowed hx1) mi_X10_allowed mv_X10_allowed ml_X10_83 dX10_end_2 (shC_e g1) rfl ⟨Nat.le_of_ble_eq_true rfl, Nat.le_of_ble_eq_true rfl⟩ (Nat.le_of_ble_eq_true rfl) rfl ?_
  refine st_istore_2 h dX10_end_5 ?_
  refine st_iload_2 h dX10_end_6 ?_
  refine st_aload_0 h dX10_end_7 ?_
  refine st_aload_1 h dX10_end_8 ?_
  obtain ⟨x2, hx2, hF⟩ := bI hF
  refine st_cVi (vs := [.ref a1]) (st := [.int x1]) h (w_X10_spent hx2) mi_X10_spent mv_X10_spent ml_X10_77 dX10_end_9 (shC_e g1) rfl ⟨Nat.le_of_ble_eq_true rfl, Nat.le_of_ble_eq_true rfl⟩ (Nat.le_of_ble_eq_true rfl) rfl ?_
  refine st_isub h dX10_end_12 ?_
  refine st_istore_3 h dX10_end_13 ?_
  refine st_aload_0 h dX10_end_14 ?_
  refine st_iload_3 h dX10_end_15 ?_
  refine st_if_ge (t := 25) h dX10_end_16 (by decide) (fun q1 => ?_) (fun q1 => ?_)
  · have hF := pI q1 hF
    refine st_iload_3 h dX10_end_25 ?_
    refine st_aload_0 h dX10_end_26 ?_
    refine gX10_5 h fl_X10_21 dX10_end_27 g1 ?_
    refine st_ic_2 h dX10_end_30 ?_
    refine iaC h dX10_end_31 (sk_10_5 g1) (by decide) ?_
    refine st_iload_2 h dX10_end_32 ?_
    refine st_imul h dX10_end_33 ?_
    refine st_bipush (v := 100) h dX10_end_34 (by decide) ?_
    refine st_idiv h (by decide) dX10_end_36 ?_
    refine st_min h ml_X10_89 mt_min.1 mt_min.2.1 mt_min.2.2 dX10_end_37 ⟨Nat.le_of_ble_eq_true rfl, Nat.le_of_ble_eq_true rfl⟩ (Nat.le_of_ble_eq_true rfl) ⟨Nat.zero_le _, Nat.zero_le _⟩ ?_
    exact st_sub (ls_s (ls_n (ls_n (ls_n ls_e)))) (w_X10_end_40 h hr σ a0 a0 (if ((σ.1 (a0 + 4) (ix 2)) * x1) / 100 < x1 - x2 then ((σ.1 (a0 + 4) (ix 2)) * x1) / 100 else x1 - x2) z hF)
  · have hF := qI q1 hF
    refine st_ic_2 h dX10_end_19 ?_
    refine st_iload_3 h dX10_end_20 ?_
    refine st_imul h dX10_end_21 ?_
    refine st_goto (t := 40) h dX10_end_22 (by decide) ?_
    exact st_sub (ls_s (ls_n (ls_n (ls_n ls_e)))) (w_X10_end_40 h hr σ a0 a0 (2 * (x1 - x2)) z hF)
set_option maxRecDepth 100000 in
set_option maxHeartbeats 4000000 in
theorem w_X4_noteGame_17 {p : Program} {l : Launch} {e : Env} {s : State} {m : MethodId} {args : Array Value} {below : List Frame} {meth : Method} {c : Code} {G : Gv} (h : Cx p s m args meth c G cX4_noteGame 5 RX4) (hr : meth.sig.returnType = none) : ∀ (σ : Sto) (i1 : Int32) (i2 : Int32) (i3 : Int32) (i4 : Int32) (z : Sto), F_X4_noteGame_17 σ i1 i2 i3 i4 = some z → AW p l e (rmD 1 0 0) s m args below meth c (MQ below (QcR G shC νC none (ovC z)) args s 0 0 (gA G)) 0 0 G 5 17 [some (.ref 84), some (.int i1), some (.int i2), some (.int i3), some (.int i4)] [] shC νC (ovC σ) := by
  intro σ i1 i2 i3 i4 z hF
  rw [F_X4_noteGame_17] at hF
  refine st_aload_0 h dX4_noteGame_17 ?_
  refine st_ic_1 h dX4_noteGame_18 ?_
  obtain ⟨s1, hs1, hF⟩ := swI hF
  refine pX4_8 h fl_X4_107 dX4_noteGame_19 (congrArg Prod.fst kC_84) (Or.inr rfl) hs1 ?_
  refine st_aload_0 h dX4_noteGame_22 ?_
  refine gX4_5 h fl_X4_32 dX4_noteGame_23 (congrArg Prod.fst kC_84) ?_
  refine st_ic_0 h dX4_noteGame_26 ?_
  refine st_iload_1 h dX4_noteGame_27 ?_
  obtain ⟨s2, hs2, hF⟩ := swI hF
  refine isC h dX4_noteGame_28 kC_98 (by decide) hs2 ?_
  refine st_aload_0 h dX4_noteGame_29 ?_
  refine gX4_5 h fl_X4_32 dX4_noteGame_30 (congrArg Prod.fst kC_84) ?_
  refine st_ic_1 h dX4_noteGame_33 ?_
  refine st_iload_2 h dX4_noteGame_34 ?_
  obtain ⟨s3, hs3, hF⟩ := swI hF
  refine isC h dX4_noteGame_35 kC_98 (by decide) hs3 ?_
  refine st_aload_0 h dX4_noteGame_36 ?_
  refine gX4_5 h fl_X4_32 dX4_noteGame_37 (congrArg Prod.fst kC_84) ?_
  refine st_ic_2 h dX4_noteGame_40 ?_
  refine st_iload_3 h dX4_noteGame_41 ?_
  obtain ⟨s4, hs4, hF⟩ := swI hF
  refine isC h dX4_noteGame_42 kC_98 (by decide) hs4 ?_
  refine st_aload_0 h dX4_noteGame_43 ?_
  refine gX4_5 h fl_X4_32 dX4_noteGame_44 (congrArg Prod.fst kC_84) ?_
  refine st_ic_3 h dX4_noteGame_47 ?_
  refine st_iload_4 h dX4_noteGame_48 ?_
  obtain ⟨s5, hs5, hF⟩ := swI hF
  refine isC h dX4_noteGame_50 kC_98 (by decide) hs5 ?_
  cases hF
  exact st_vret h hr dX4_noteGame_51
set_option maxRecDepth 100000 in
set_option maxHeartbeats 4000000 in
theorem w_X4_noteGame {l : Launch} {G : Gv} {σ : Sto} {i1 : Int32} {i2 : Int32} {i3 : Int32} {i4 : Int32} {z : Sto} (hF : F_X4_noteGame σ i1 i2 i3 i4 = some z) : Con l yX4_noteGame cX4_noteGame 5 none 1 G shC νC [.ref 84, .int i1, .int i2, .int i3, .int i4] (ovC σ) none (ovC z) := by
  rw [F_X4_noteGame] at hF
  refine Con_enter (own := RX4) 0 (lv := [some (.ref 84), some (.int i1), some (.int i2), some (.int i3), some (.int i4)]) mi_X4_noteGame.2.2.2 rfl (Nat.le_of_ble_eq_true rfl) rfl (fun h hr hin => ?_)
  refine st_aload_0 h dX4_noteGame_0 ?_
  refine gX4_8 h fl_X4_107 dX4_noteGame_1 (congrArg Prod.fst kC_84) ?_
  refine st_if_eq (t := 17) h dX4_noteGame_4 (by decide) (fun q1 => ?_) (fun q1 => ?_)
  · have hF := pI q1 hF
    exact st_sub (ls_s (ls_s (ls_s (ls_s (ls_s ls_e))))) (w_X4_noteGame_17 h hr σ i1 i2 i3 i4 z hF)
  · have hF := qI q1 hF
    refine st_iload_1 h dX4_noteGame_7 ?_
    refine st_aload_0 h dX4_noteGame_8 ?_
    refine gX4_5 h fl_X4_32 dX4_noteGame_9 (congrArg Prod.fst kC_84) ?_
    refine st_ic_0 h dX4_noteGame_12 ?_
    refine iaC h dX4_noteGame_13 kC_98 (by decide) ?_
    refine st_icmp_le (t := 51) h dX4_noteGame_14 (by decide) (fun q2 => ?_) (fun q2 => ?_)
    · have hF := pI q2 hF
      cases hF
      exact st_vret h hr dX4_noteGame_51
    · have hF := qI q2 hF
      exact st_sub (ls_s (ls_s (ls_s (ls_s (ls_s ls_e))))) (w_X4_noteGame_17 h hr σ i1 i2 i3 i4 z hF)
set_option maxRecDepth 100000 in
set_option maxHeartbeats 4000000 in
theorem w_X8_bound {l : Launch} {G : Gv} {σ : Sto} {z : Int32} (hF : F_X8_bound σ  = some z) : Con l yX8_bound cX8_bound 1 (some .int) 1 G shC νC [.ref 63] (ovC σ) (some (.int z)) (ovC σ) := by
  rw [F_X8_bound] at hF
  refine Con_enter (own := RX8) 0 (lv := [some (.ref 63)]) mi_X8_bound.2.2.2 rfl (Nat.le_of_ble_eq_true rfl) rfl (fun h hr hin => ?_)
  refine st_aload_0 h dX8_bound_0 ?_
  refine gX8_12 h fl_X8_42 dX8_bound_1 (congrArg Prod.fst kC_63) ?_
  refine st_ic_0 h dX8_bound_4 ?_
  refine iaC h dX8_bound_5 kC_74 (by decide) ?_
  refine st_aload_0 h dX8_bound_6 ?_
  refine gX8_13 h fl_X8_112 dX8_bound_7 (congrArg Prod.fst kC_63) ?_
  refine st_aload_0 h dX8_bound_10 ?_
  refine gX8_3 h fl_X8_15 dX8_bound_11 (congrArg Prod.fst kC_63) ?_
  refine st_ic_0 h dX8_bound_14 ?_
  refine iaC h dX8_bound_15 kC_65 (by decide) ?_
  refine st_imul h dX8_bound_16 ?_
  refine st_iadd h dX8_bound_17 ?_
  refine st_bipush (v := 8) h dX8_bound_18 (by decide) ?_
  refine st_ishr h dX8_bound_20 ?_
  cases hF
  exact st_iret h hr dX8_bound_21
set_option maxRecDepth 100000 in
set_option maxHeartbeats 4000000 in
theorem w_X4_playNext_40 {p : Program} {l : Launch} {e : Env} {s : State} {m : MethodId} {args : Array Value} {below : List Frame} {meth : Method} {c : Code} {G : Gv} (h : Cx p s m args meth c G cX4_playNext 5 RX4) (hr : meth.sig.returnType = none) : ∀ (σ : Sto) (i2 : Int32) (i3 : Int32) (i4 : Int32) (z : Sto), F_X4_playNext_40 σ i2 i3 i4 = some z → AW p l e (rmD 10 0 0) s m args below meth c (MQ below (QcR G shC νC none (ovC z)) args s 0 0 (gA G)) 0 0 G 5 40 [some (.ref 84), none, some (.int i2), some (.int i3), some (.int i4)] [] shC νC (ovC σ) := by
  intro σ i2 i3 i4 z hF
  rw [F_X4_playNext_40] at hF
  refine st_aload_0 h dX4_playNext_40 ?_
  refine gX4_0 h fl_X4_35 dX4_playNext_41 (congrArg Prod.fst kC_84) ?_
  refine st_aload_0 h dX4_playNext_44 ?_
  refine gX4_1 h fl_X4_12 dX4_playNext_45 (congrArg Prod.fst kC_84) ?_
  obtain ⟨x1, hx1, hF⟩ := bI hF
  refine st_cVv (vs := [.ref 85]) (st := []) h (w_X8_seek hx1) mi_X8_seek mv_X8_seek ml_X4_137 dX4_playNext_48 kC_63 rfl ⟨Nat.le_of_ble_eq_true rfl, Nat.le_of_ble_eq_true rfl⟩ (Nat.le_of_ble_eq_true rfl) rfl ?_
  refine st_aload_0 h dX4_playNext_51 ?_
  refine st_iload_4 h dX4_playNext_52 ?_
  refine st_aload_0 h dX4_playNext_54 ?_
  refine gX4_1 h fl_X4_12 dX4_playNext_55 (congrArg Prod.fst kC_84) ?_
  refine gX7_2 h fl_X4_94 dX4_playNext_58 (congrArg Prod.fst kC_85) ?_
  refine st_iadd h dX4_playNext_61 ?_
  refine st_iload_2 h dX4_playNext_62 ?_
  refine st_iload_3 h dX4_playNext_63 ?_
  refine st_iload_4 h dX4_playNext_64 ?_
  obtain ⟨x2, hx2, hF⟩ := bI hF
  refine st_cVv (vs := [.int (i4 + (x1.1 85 2)), .int i2, .int i3, .int i4]) (st := []) h (w_X4_noteGame hx2) mi_X4_noteGame mv_X4_noteGame ml_X4_141 dX4_playNext_66 kC_84 rfl ⟨Nat.le_of_ble_eq_true rfl, Nat.le_of_ble_eq_true rfl⟩ (Nat.le_of_ble_eq_true rfl) rfl ?_
  cases hF
  exact st_vret h hr dX4_playNext_69
set_option maxRecDepth 100000 in
set_option maxHeartbeats 4000000 in
theorem w_X4_playNext {l : Launch} {G : Gv} {σ : Sto} {a1 : Nat} {i2 : Int32} {i3 : Int32} {i4 : Int32} {z : Sto} (hF : F_X4_playNext σ a1 i2 i3 i4 = some z) : Con l yX4_playNext cX4_playNext 5 none 10 G shC νC [.ref 84, .ref a1, .int i2, .int i3, .int i4] (ovC σ) none (ovC z) := by
  rw [F_X4_playNext] at hF
  refine Con_enter (own := RX4) 0 (lv := [some (.ref 84), some (.ref a1), some (.int i2), some (.int i3), some (.int i4)]) mi_X4_playNext.2.2.2 rfl (Nat.le_of_ble_eq_true rfl) rfl (fun h hr hin => ?_)
  refine st_aload_0 h dX4_playNext_0 ?_
  refine gX4_0 h fl_X4_35 dX4_playNext_1 (congrArg Prod.fst kC_84) ?_
  refine st_aload_1 h dX4_playNext_4 ?_
  obtain ⟨g1, hF⟩ := gI hF
  refine gX9_7 h fl_X4_76 dX4_playNext_5 g1 ?_
  obtain ⟨x1, hx1, hF⟩ := bI hF
  refine st_cVi (vs := [.ref (a1 + 6)]) (st := []) h (w_X8_prepare hx1) mi_X8_prepare mv_X8_prepare ml_X4_129 dX4_playNext_8 kC_63 rfl ⟨Nat.le_of_ble_eq_true rfl, Nat.le_of_ble_eq_true rfl⟩ (Nat.le_of_ble_eq_true rfl) rfl ?_
  refine st_if_eq (t := 69) h dX4_playNext_11 (by decide) (fun q1 => ?_) (fun q1 => ?_)
  · have hF := pI q1 hF
    cases hF
    exact st_vret h hr dX4_playNext_69
  · have hF := qI q1 hF
    refine st_aload_0 h dX4_playNext_14 ?_
    refine gX4_8 h fl_X4_107 dX4_playNext_15 (congrArg Prod.fst kC_84) ?_
    refine st_if_eq (t := 40) h dX4_playNext_18 (by decide) (fun q2 => ?_) (fun q2 => ?_)
    · have hF := pI q2 hF
      exact st_sub (ls_s (ls_n (ls_s (ls_s (ls_s ls_e))))) (w_X4_playNext_40 h hr x1.2 i2 i3 i4 z hF)
    · have hF := qI q2 hF
      refine st_iload_4 h dX4_playNext_21 ?_
      refine st_aload_0 h dX4_playNext_23 ?_
      refine gX4_0 h fl_X4_35 dX4_playNext_24 (congrArg Prod.fst kC_84) ?_
      obtain ⟨x2, hx2, hF⟩ := bI hF
      refine st_cVi (vs := []) (st := [.int i4]) h (w_X8_bound hx2) mi_X8_bound mv_X8_bound ml_X4_133 dX4_playNext_27 kC_63 rfl ⟨Nat.le_of_ble_eq_true rfl, Nat.le_of_ble_eq_true rfl⟩ (Nat.le_of_ble_eq_true rfl) rfl ?_
      refine st_iadd h dX4_playNext_30 ?_
      refine st_aload_0 h dX4_playNext_31 ?_
      refine gX4_5 h fl_X4_32 dX4_playNext_32 (congrArg Prod.fst kC_84) ?_
      refine st_ic_0 h dX4_playNext_35 ?_
      refine iaC h dX4_playNext_36 kC_98 (by decide) ?_
      refine st_icmp_le (t := 69) h dX4_playNext_37 (by decide) (fun q3 => ?_) (fun q3 => ?_)
      · have hF := pI q3 hF
        cases hF
        exact st_vret h hr dX4_playNext_69
      · have hF := qI q3 hF
        exact st_sub (ls_s (ls_n (ls_s (ls_s (ls_s ls_e))))) (w_X4_playNext_40 h hr x1.2 i2 i3 i4 z hF)
set_option maxRecDepth 100000 in
set_option maxHeartbeats 4000000 in
theorem w_X4_playService_94 {p : Program} {l : Launch} {e : Env} {s : State} {m : MethodId} {args : Array Value} {below : List Frame} {meth : Method} {c : Code} {G : Gv} (h : Cx p s m args meth c G cX4_playService 8 RX4) (hr : meth.sig.returnType = none) {k17 : Sto → Nat → Nat → Int32 → Int32 → Int32 → Int32 → Option Sto} (H17 : ∀ (σ : Sto) (a1 : Nat) (a2 : Nat) (i3 : Int32) (i4 : Int32) (i5 : Int32) (i6 : Int32) (z : Sto), k17 σ a1 a2 i3 i4 i5 i6 = some z → AW p l e (rmD 11 0 0) s m args below meth c (MQ below (QcR G shC νC none (ovC z)) args s 0 0 (gA G)) 0 0 G 8 17 [some (.ref 84), some (.ref a1), some (.ref a2), some (.int i3), some (.int i4), some (.int i5), some (.int i6), none] [] shC νC (ovC σ)) : ∀ (σ : Sto) (a1 : Nat) (a2 : Nat) (i3 : Int32) (i4 : Int32) (i5 : Int32) (i6 : Int32) (i7 : Int32) (z : Sto), F_X4_playService_94 k17 σ a1 a2 i3 i4 i5 i6 i7 = some z → AW p l e (rmD 11 0 0) s m args below meth c (MQ below (QcR G shC νC none (ovC z)) args s 0 0 (gA G)) 0 0 G 8 94 [some (.ref 84), some (.ref a1), some (.ref a2), some (.int i3), some (.int i4), some (.int i5), some (.int i6), some (.int i7)] [] shC νC (ovC σ) := by
  intro σ a1 a2 i3 i4 i5 i6 i7 z hF
  rw [F_X4_playService_94] at hF
  refine st_aload_0 h dX4_playService_94 ?_
  refine gX4_3 h fl_X4_25 dX4_playService_95 (congrArg Prod.fst kC_84) ?_
  refine st_aload_1 h dX4_playService_98 ?_
  obtain ⟨x1, hx1, hF⟩ := bI hF
  refine st_cVv (vs := [.ref a1]) (st := []) h (w_X10_end hx1) mi_X10_end mv_X10_end ml_X4_90 dX4_playService_99 kC_92 rfl ⟨Nat.le_of_ble_eq_true rfl, Nat.le_of_ble_eq_true rfl⟩ (Nat.le_of_ble_eq_true rfl) rfl ?_
  refine st_aload_0 h dX4_playService_102 ?_
  refine gX4_0 h fl_X4_35 dX4_playService_103 (congrArg Prod.fst kC_84) ?_
  refine st_aload_1 h dX4_playService_106 ?_
  refine st_aload_0 h dX4_playService_107 ?_
  refine gX4_3 h fl_X4_25 dX4_playService_108 (congrArg Prod.fst kC_84) ?_
  obtain ⟨x2, hx2, hF⟩ := bI hF
  refine st_cVv (vs := [.ref a1, .ref 92]) (st := []) h (w_X8_begin hx2) mi_X8_begin mv_X8_begin ml_X4_70 dX4_playService_111 kC_63 rfl ⟨Nat.le_of_ble_eq_true rfl, Nat.le_of_ble_eq_true rfl⟩ (Nat.le_of_ble_eq_true rfl) rfl ?_
  refine st_aload_0 h dX4_playService_114 ?_
  refine st_aload_1 h dX4_playService_115 ?_
  refine st_iload_3 h dX4_playService_116 ?_
  refine st_iload_6 h dX4_playService_117 ?_
  refine st_iload_7 h dX4_playService_119 ?_
  obtain ⟨x3, hx3, hF⟩ := bI hF
  refine st_cVv (vs := [.ref a1, .int i3, .int i6, .int i7]) (st := []) h (w_X4_playNext hx3) mi_X4_playNext mv_X4_playNext ml_X4_125 dX4_playService_121 kC_84 rfl ⟨Nat.le_of_ble_eq_true rfl, Nat.le_of_ble_eq_true rfl⟩ (Nat.le_of_ble_eq_true rfl) rfl ?_
  refine st_iinc_6 (y := i6 + 1) h dX4_playService_124 (ii_1 _) ?_
  refine st_goto (t := 17) h dX4_playService_127 (by decide) ?_
  exact st_sub (ls_s (ls_s (ls_s (ls_s (ls_s (ls_s (ls_s (ls_n ls_e)))))))) (H17 x3 a1 a2 i3 i4 i5 (i6 + 1) z hF)
set_option maxRecDepth 100000 in
set_option maxHeartbeats 4000000 in
theorem w_X4_playService_17 {p : Program} {l : Launch} {e : Env} {s : State} {m : MethodId} {args : Array Value} {below : List Frame} {meth : Method} {c : Code} {G : Gv} (h : Cx p s m args meth c G cX4_playService 8 RX4) (hr : meth.sig.returnType = none) : ∀ (n : Nat) (σ : Sto) (a1 : Nat) (a2 : Nat) (i3 : Int32) (i4 : Int32) (i5 : Int32) (i6 : Int32) (z : Sto), F_X4_playService_17 n σ a1 a2 i3 i4 i5 i6 = some z → AW p l e (rmD 11 0 0) s m args below meth c (MQ below (QcR G shC νC none (ovC z)) args s 0 0 (gA G)) 0 0 G 8 17 [some (.ref 84), some (.ref a1), some (.ref a2), some (.int i3), some (.int i4), some (.int i5), some (.int i6), none] [] shC νC (ovC σ) := by
  intro n
  induction n with
  | zero => intro σ a1 a2 i3 i4 i5 i6 z hF; cases hF
  | succ n ih =>
    intro σ a1 a2 i3 i4 i5 i6 z hF
    rw [F_X4_playService_17] at hF
    refine st_iload_6 h dX4_playService_17 ?_
    refine st_bipush (v := 20) h dX4_playService_19 (by decide) ?_
    refine st_icmp_gt (t := 130) h dX4_playService_21 (by decide) (fun q1 => ?_) (fun q1 => ?_)
    · have hF := pI q1 hF
      cases hF
      exact st_vret h hr dX4_playService_130
    · have hF := qI q1 hF
      refine st_aload_2 h dX4_playService_24 ?_
      refine st_aload_1 h dX4_playService_25 ?_
      refine st_iload_3 h dX4_playService_26 ?_
      refine st_iload_6 h dX4_playService_27 ?_
      obtain ⟨g1, hF⟩ := gI hF
      obtain ⟨x1, hx1, hF⟩ := bI hF
      refine st_cVi (vs := [.ref a1, .int i3, .int i6]) (st := []) h (w_X10_spentWith hx1) mi_X10_spentWith mv_X10_spentWith ml_X4_121 dX4_playService_29 (shC_e g1) rfl ⟨Nat.le_of_ble_eq_true rfl, Nat.le_of_ble_eq_true rfl⟩ (Nat.le_of_ble_eq_true rfl) rfl ?_
      refine st_iload_4 h dX4_playService_32 ?_
      refine st_icmp_gt (t := 130) h dX4_playService_34 (by decide) (fun q2 => ?_) (fun q2 => ?_)
      · have hF := pI q2 hF
        cases hF
        exact st_vret h hr dX4_playService_130
      · have hF := qI q2 hF
        refine st_aload_0 h dX4_playService_37 ?_
        refine gX4_3 h fl_X4_25 dX4_playService_38 (congrArg Prod.fst kC_84) ?_
        refine st_aload_2 h dX4_playService_41 ?_
        obtain ⟨x2, hx2, hF⟩ := bI hF
        refine st_cVv (vs := [.ref a2]) (st := []) h (w_X10_copy hx2) mi_X10_copy mv_X10_copy ml_X4_53 dX4_playService_42 kC_92 rfl ⟨Nat.le_of_ble_eq_true rfl, Nat.le_of_ble_eq_true rfl⟩ (Nat.le_of_ble_eq_true rfl) rfl ?_
        refine st_aload_0 h dX4_playService_45 ?_
        refine gX4_3 h fl_X4_25 dX4_playService_46 (congrArg Prod.fst kC_84) ?_
        refine gX10_3 h fl_X4_87 dX4_playService_49 (congrArg Prod.fst kC_92) ?_
        refine st_iload_3 h dX4_playService_52 ?_
        refine st_iload_6 h dX4_playService_53 ?_
        obtain ⟨g2, hF⟩ := gI hF
        obtain ⟨s1, hs1, hF⟩ := swI hF
        refine isC h dX4_playService_55 (sk_10_3 (congrArg Prod.fst kC_92)) g2 hs1 ?_
        refine st_aload_1 h dX4_playService_56 ?_
        refine st_aload_1 h dX4_playService_57 ?_
        obtain ⟨g3, hF⟩ := gI hF
        refine gX9_7 h fl_X4_76 dX4_playService_58 g3 ?_
        refine st_aload_0 h dX4_playService_61 ?_
        refine gX4_3 h fl_X4_25 dX4_playService_62 (congrArg Prod.fst kC_84) ?_
        refine gX10_3 h fl_X4_87 dX4_playService_65 (congrArg Prod.fst kC_92) ?_
        obtain ⟨x3, hx3, hF⟩ := bI hF
        refine st_cVi (vs := [.ref (a1 + 6), .ref (92 + 2)]) (st := []) h (w_X9_together hx3) mi_X9_together mv_X9_together ml_X4_100 dX4_playService_68 (shC_e g3) rfl ⟨Nat.le_of_ble_eq_true rfl, Nat.le_of_ble_eq_true rfl⟩ (Nat.le_of_ble_eq_true rfl) rfl ?_
        refine st_istore_7 h dX4_playService_71 ?_
        refine st_aload_0 h dX4_playService_73 ?_
        refine gX4_8 h fl_X4_107 dX4_playService_74 (congrArg Prod.fst kC_84) ?_
        refine st_if_eq (t := 94) h dX4_playService_77 (by decide) (fun q3 => ?_) (fun q3 => ?_)
        · have hF := pI q3 hF
          exact st_sub (ls_s (ls_s (ls_s (ls_s (ls_s (ls_s (ls_s (ls_s ls_e)))))))) (w_X4_playService_94 h hr ih s1 a1 a2 i3 i4 i5 i6 x3 z hF)
        · have hF := qI q3 hF
          refine st_iload_7 h dX4_playService_80 ?_
          refine st_iload_5 h dX4_playService_82 ?_
          refine st_iadd h dX4_playService_84 ?_
          refine st_aload_0 h dX4_playService_85 ?_
          refine gX4_5 h fl_X4_32 dX4_playService_86 (congrArg Prod.fst kC_84) ?_
          refine st_ic_0 h dX4_playService_89 ?_
          refine iaC h dX4_playService_90 kC_98 (by decide) ?_
          refine st_icmp_le (t := 124) h dX4_playService_91 (by decide) (fun q4 => ?_) (fun q4 => ?_)
          · have hF := pI q4 hF
            refine st_iinc_6 (y := i6 + 1) h dX4_playService_124 (ii_1 _) ?_
            refine st_goto (t := 17) h dX4_playService_127 (by decide) ?_
            exact st_sub (ls_s (ls_s (ls_s (ls_s (ls_s (ls_s (ls_s (ls_n ls_e)))))))) (ih s1 a1 a2 i3 i4 i5 (i6 + 1) z hF)
          · have hF := qI q4 hF
            exact st_sub (ls_s (ls_s (ls_s (ls_s (ls_s (ls_s (ls_s (ls_s ls_e)))))))) (w_X4_playService_94 h hr ih s1 a1 a2 i3 i4 i5 i6 x3 z hF)
set_option maxRecDepth 100000 in
set_option maxHeartbeats 4000000 in
theorem w_X4_playService {l : Launch} {G : Gv} {σ : Sto} {a1 : Nat} {a2 : Nat} {i3 : Int32} {z : Sto} (hF : F_X4_playService σ a1 a2 i3 = some z) : Con l yX4_playService cX4_playService 8 none 11 G shC νC [.ref 84, .ref a1, .ref a2, .int i3] (ovC σ) none (ovC z) := by
  rw [F_X4_playService] at hF
  refine Con_enter (own := RX4) 4 (lv := [some (.ref 84), some (.ref a1), some (.ref a2), some (.int i3), none, none, none, none]) mi_X4_playService.2.2.2 rfl (Nat.le_of_ble_eq_true rfl) rfl (fun h hr hin => ?_)
  refine st_aload_2 h dX4_playService_0 ?_
  refine st_aload_1 h dX4_playService_1 ?_
  obtain ⟨g1, hF⟩ := gI hF
  obtain ⟨x1, hx1, hF⟩ := bI hF
  refine st_cVi (vs := [.ref a1]) (st := []) h (w_X10_allowed hx1) mi_X10_allowed mv_X10_allowed ml_X4_114 dX4_playService_2 (shC_e g1) rfl ⟨Nat.le_of_ble_eq_true rfl, Nat.le_of_ble_eq_true rfl⟩ (Nat.le_of_ble_eq_true rfl) rfl ?_
  refine st_istore_4 h dX4_playService_5 ?_
  refine st_aload_0 h dX4_playService_7 ?_
  refine st_aload_1 h dX4_playService_8 ?_
  obtain ⟨x2, hx2, hF⟩ := bI hF
  refine st_cVi (vs := [.ref a1]) (st := []) h (w_X4_freeProfit hx2) mi_X4_freeProfit mv_X4_freeProfit ml_X4_118 dX4_playService_9 kC_84 rfl ⟨Nat.le_of_ble_eq_true rfl, Nat.le_of_ble_eq_true rfl⟩ (Nat.le_of_ble_eq_true rfl) rfl ?_
  refine st_istore_5 h dX4_playService_12 ?_
  refine st_ic_0 h dX4_playService_14 ?_
  refine st_istore_6 h dX4_playService_15 ?_
  exact st_sub (ls_s (ls_s (ls_s (ls_s (ls_s (ls_s (ls_s (ls_n ls_e)))))))) (w_X4_playService_17 h hr FU σ a1 a2 i3 x1 x2 0 z hF)
set_option maxRecDepth 100000 in
set_option maxHeartbeats 4000000 in
theorem w_X4_play_14 {p : Program} {l : Launch} {e : Env} {s : State} {m : MethodId} {args : Array Value} {below : List Frame} {meth : Method} {c : Code} {G : Gv} (h : Cx p s m args meth c G cX4_play 4 RX4) (hr : meth.sig.returnType = (some .boolean)) : ∀ (n : Nat) (σ : Sto) (a1 : Nat) (a2 : Nat) (i3 : Int32) (z : (Int32 × Sto)), F_X4_play_14 n σ a1 a2 i3 = some z → AW p l e (rmD 12 0 0) s m args below meth c (MQ below (QcR G shC νC (some (.int z.1)) (ovC z.2)) args s 0 0 (gA G)) 0 0 G 4 14 [some (.ref 84), some (.ref a1), some (.ref a2), some (.int i3)] [] shC νC (ovC σ) := by
  intro n
  induction n with
  | zero => intro σ a1 a2 i3 z hF; cases hF
  | succ n ih =>
    intro σ a1 a2 i3 z hF
    rw [F_X4_play_14] at hF
    refine st_iload_3 h dX4_play_14 ?_
    refine st_aload_1 h dX4_play_15 ?_
    obtain ⟨g1, hF⟩ := gI hF
    refine gX9_0 h fl_X4_83 dX4_play_16 g1 ?_
    refine st_icmp_ge (t := 35) h dX4_play_19 (by decide) (fun q1 => ?_) (fun q1 => ?_)
    · have hF := pI q1 hF
      refine st_aload_0 h dX4_play_35 ?_
      refine st_ic_1 h dX4_play_36 ?_
      obtain ⟨s1, hs1, hF⟩ := swI hF
      refine pX4_7 h fl_X4_39 dX4_play_37 (congrArg Prod.fst kC_84) (Or.inr rfl) hs1 ?_
      refine st_aload_0 h dX4_play_40 ?_
      refine gX4_8 h fl_X4_107 dX4_play_41 (congrArg Prod.fst kC_84) ?_
      obtain ⟨g2, hF⟩ := gI hF
      cases hF
      exact st_zret h hr g2 dX4_play_44
    · have hF := qI q1 hF
      refine st_aload_0 h dX4_play_22 ?_
      refine st_aload_1 h dX4_play_23 ?_
      refine st_aload_2 h dX4_play_24 ?_
      refine st_iload_3 h dX4_play_25 ?_
      obtain ⟨x1, hx1, hF⟩ := bI hF
      refine st_cVv (vs := [.ref a1, .ref a2, .int i3]) (st := []) h (w_X4_playService hx1) mi_X4_playService mv_X4_playService ml_X4_110 dX4_play_26 kC_84 rfl ⟨Nat.le_of_ble_eq_true rfl, Nat.le_of_ble_eq_true rfl⟩ (Nat.le_of_ble_eq_true rfl) rfl ?_
      refine st_iinc_3 (y := i3 + 1) h dX4_play_29 (ii_1 _) ?_
      refine st_goto (t := 14) h dX4_play_32 (by decide) ?_
      exact st_sub (ls_s (ls_s (ls_s (ls_s ls_e)))) (ih x1 a1 a2 (i3 + 1) z hF)
set_option maxRecDepth 100000 in
set_option maxHeartbeats 4000000 in
theorem w_X4_play {l : Launch} {G : Gv} {σ : Sto} {a1 : Nat} {a2 : Nat} {z : (Int32 × Sto)} (hF : F_X4_play σ a1 a2 = some z) : Con l yX4_play cX4_play 4 (some .boolean) 12 G shC νC [.ref 84, .ref a1, .ref a2] (ovC σ) (some (.int z.1)) (ovC z.2) := by
  rw [F_X4_play] at hF
  refine Con_enter (own := RX4) 1 (lv := [some (.ref 84), some (.ref a1), some (.ref a2), none]) mi_X4_play.2.2.2 rfl (Nat.le_of_ble_eq_true rfl) rfl (fun h hr hin => ?_)
  refine st_aload_0 h dX4_play_0 ?_
  refine gX4_7 h fl_X4_39 dX4_play_1 (congrArg Prod.fst kC_84) ?_
  refine st_if_ne (t := 40) h dX4_play_4 (by decide) (fun q1 => ?_) (fun q1 => ?_)
  · have hF := qI q1 hF
    refine st_aload_0 h dX4_play_40 ?_
    refine gX4_8 h fl_X4_107 dX4_play_41 (congrArg Prod.fst kC_84) ?_
    obtain ⟨g1, hF⟩ := gI hF
    cases hF
    exact st_zret h hr g1 dX4_play_44
  · have hF := pI q1 hF
    refine st_aload_0 h dX4_play_7 ?_
    refine st_ic_0 h dX4_play_8 ?_
    obtain ⟨s1, hs1, hF⟩ := swI hF
    refine pX4_8 h fl_X4_107 dX4_play_9 (congrArg Prod.fst kC_84) (Or.inl rfl) hs1 ?_
    refine st_ic_0 h dX4_play_12 ?_
    refine st_istore_3 h dX4_play_13 ?_
    exact st_sub (ls_s (ls_s (ls_s (ls_s ls_e)))) (w_X4_play_14 h hr FU s1 a1 a2 0 z hF)
set_option maxRecDepth 100000 in
set_option maxHeartbeats 4000000 in
theorem w_X11_game_16 {p : Program} {l : Launch} {e : Env} {s : State} {m : MethodId} {args : Array Value} {below : List Frame} {meth : Method} {c : Code} {G : Gv} (h : Cx p s m args meth c G cX11_game 2 RX11) (hr : meth.sig.returnType = (some .int)) : ∀ (σ : Sto) (z : (Int32 × Sto)), F_X11_game_16 σ  = some z → AW p l e (rmD 13 0 0) s m args below meth c (MQ below (QcR G shC νC (some (.int z.1)) (ovC z.2)) args s 0 0 (gA G)) 0 0 G 2 16 [some (.ref 0), none] [] shC νC (ovC σ) := by
  intro σ z hF
  rw [F_X11_game_16] at hF
  refine st_aload_0 h dX11_game_16 ?_
  refine st_ic_1 h dX11_game_17 ?_
  obtain ⟨x1, hx1, hF⟩ := bI hF
  refine st_cVi (vs := [.int 1]) (st := []) h (w_X11_refuse hx1) mi_X11_refuse mv_X11_refuse ml_X11_99 dX11_game_18 kC_0 rfl ⟨Nat.le_of_ble_eq_true rfl, Nat.le_of_ble_eq_true rfl⟩ (Nat.le_of_ble_eq_true rfl) rfl ?_
  cases hF
  exact st_iret h hr dX11_game_21
set_option maxRecDepth 100000 in
set_option maxHeartbeats 4000000 in
theorem w_X11_game {l : Launch} {G : Gv} {σ : Sto} {i1 : Int32} {z : (Int32 × Sto)} (hF : F_X11_game σ i1 = some z) : Con l yX11_game cX11_game 2 (some .int) 13 G shC νC [.ref 0, .int i1] (ovC σ) (some (.int z.1)) (ovC z.2) := by
  rw [F_X11_game] at hF
  refine Con_enter (own := RX11) 0 (lv := [some (.ref 0), some (.int i1)]) mi_X11_game.2.2.2 rfl (Nat.le_of_ble_eq_true rfl) rfl (fun h hr hin => ?_)
  refine st_aload_0 h dX11_game_0 ?_
  refine gX11_13 h fl_X11_131 dX11_game_1 (congrArg Prod.fst kC_0) ?_
  refine st_if_eq (t := 16) h dX11_game_4 (by decide) (fun q1 => ?_) (fun q1 => ?_)
  · have hF := pI q1 hF
    exact st_sub (ls_s (ls_n ls_e)) (w_X11_game_16 h hr σ  z hF)
  · have hF := qI q1 hF
    refine st_iload_1 h dX11_game_7 ?_
    refine st_if_lt (t := 16) h dX11_game_8 (by decide) (fun q2 => ?_) (fun q2 => ?_)
    · have hF := pI q2 hF
      exact st_sub (ls_s (ls_n ls_e)) (w_X11_game_16 h hr σ  z hF)
    · have hF := qI q2 hF
      refine st_iload_1 h dX11_game_11 ?_
      refine st_ic_3 h dX11_game_12 ?_
      refine st_icmp_le (t := 22) h dX11_game_13 (by decide) (fun q3 => ?_) (fun q3 => ?_)
      · have hF := pI q3 hF
        refine st_aload_0 h dX11_game_22 ?_
        refine gX11_8 h fl_X11_66 dX11_game_23 (congrArg Prod.fst kC_0) ?_
        refine st_aload_0 h dX11_game_26 ?_
        obtain ⟨x1, hx1, hF⟩ := bI hF
        refine gX11_11 h fl_X11_83 dX11_game_27 hx1 ?_
        refine st_aload_0 h dX11_game_30 ?_
        refine gX11_2 h fl_X11_23 dX11_game_31 (congrArg Prod.fst kC_0) ?_
        obtain ⟨x2, hx2, hF⟩ := bI hF
        refine st_cVi (vs := [.ref x1, .ref 3]) (st := []) h (w_X4_play hx2) mi_X4_play mv_X4_play ml_X11_239 dX11_game_34 kC_84 rfl ⟨Nat.le_of_ble_eq_true rfl, Nat.le_of_ble_eq_true rfl⟩ (Nat.le_of_ble_eq_true rfl) rfl ?_
        refine st_if_ne (t := 47) h dX11_game_37 (by decide) (fun q4 => ?_) (fun q4 => ?_)
        · have hF := qI q4 hF
          refine st_aload_0 h dX11_game_47 ?_
          refine st_aload_0 h dX11_game_48 ?_
          refine gX11_8 h fl_X11_66 dX11_game_49 (congrArg Prod.fst kC_0) ?_
          refine gX4_5 h fl_X11_243 dX11_game_52 (congrArg Prod.fst kC_84) ?_
          refine st_iload_1 h dX11_game_55 ?_
          obtain ⟨g1, hF⟩ := gI hF
          refine iaC h dX11_game_56 kC_98 g1 ?_
          obtain ⟨x3, hx3, hF⟩ := bI hF
          refine st_cVi (vs := [.int (x2.2.1 98 (ix i1))]) (st := []) h (w_X11_answer hx3) mi_X11_answer mv_X11_answer ml_X11_125 dX11_game_57 kC_0 rfl ⟨Nat.le_of_ble_eq_true rfl, Nat.le_of_ble_eq_true rfl⟩ (Nat.le_of_ble_eq_true rfl) rfl ?_
          cases hF
          exact st_iret h hr dX11_game_60
        · have hF := pI q4 hF
          refine st_aload_0 h dX11_game_40 ?_
          refine st_bipush (v := 6) h dX11_game_41 (by decide) ?_
          obtain ⟨x4, hx4, hF⟩ := bI hF
          refine st_cVi (vs := [.int 6]) (st := []) h (w_X11_refuse hx4) mi_X11_refuse mv_X11_refuse ml_X11_99 dX11_game_43 kC_0 rfl ⟨Nat.le_of_ble_eq_true rfl, Nat.le_of_ble_eq_true rfl⟩ (Nat.le_of_ble_eq_true rfl) rfl ?_
          cases hF
          exact st_iret h hr dX11_game_46
      · have hF := qI q3 hF
        exact st_sub (ls_s (ls_n ls_e)) (w_X11_game_16 h hr σ  z hF)
set_option maxRecDepth 100000 in
set_option maxHeartbeats 4000000 in
theorem w_X4_step_73 {p : Program} {l : Launch} {e : Env} {s : State} {m : MethodId} {args : Array Value} {below : List Frame} {meth : Method} {c : Code} {G : Gv} (h : Cx p s m args meth c G cX4_step 5 RX4) (hr : meth.sig.returnType = none) {k32 : Sto → Nat → Int32 → Int32 → Int32 → Option Sto} (H32 : ∀ (σ : Sto) (a1 : Nat) (i2 : Int32) (i3 : Int32) (i4 : Int32) (z : Sto), k32 σ a1 i2 i3 i4 = some z → AW p l e (rmD 11 0 0) s m args below meth c (MQ below (QcR G shC νC none (ovC z)) args s 0 0 (gA G)) 0 0 G 5 32 [some (.ref 84), some (.ref a1), some (.int i2), some (.int i3), some (.int i4)] [] shC νC (ovC σ)) : ∀ (σ : Sto) (a1 : Nat) (i2 : Int32) (i4 : Int32) (e0 : Int32) (z : Sto), F_X4_step_73 k32 σ a1 i2 i4 e0 = some z → AW p l e (rmD 11 0 0) s m args below meth c (MQ below (QcR G shC νC none (ovC z)) args s 0 0 (gA G)) 0 0 G 5 73 [some (.ref 84), some (.ref a1), some (.int i2), none, some (.int i4)] [.int e0] shC νC (ovC σ) := by
  intro σ a1 i2 i4 e0 z hF
  rw [F_X4_step_73] at hF
  refine st_istore_3 h dX4_step_73 ?_
  refine st_aload_0 h dX4_step_74 ?_
  refine gX4_2 h fl_X4_21 dX4_step_75 (congrArg Prod.fst kC_84) ?_
  refine gX10_3 h fl_X4_87 dX4_step_78 (congrArg Prod.fst kC_87) ?_
  refine st_iload_4 h dX4_step_81 ?_
  refine st_aload_0 h dX4_step_83 ?_
  refine gX4_1 h fl_X4_12 dX4_step_84 (congrArg Prod.fst kC_84) ?_
  refine gX7_3 h fl_X4_86 dX4_step_87 (congrArg Prod.fst kC_85) ?_
  refine st_iload_4 h dX4_step_90 ?_
  obtain ⟨g1, hF⟩ := gI hF
  refine iaC h dX4_step_92 (sk_7_3 (congrArg Prod.fst kC_85)) g1 ?_
  obtain ⟨s1, hs1, hF⟩ := swI hF
  refine isC h dX4_step_93 (sk_10_3 (congrArg Prod.fst kC_87)) g1 hs1 ?_
  refine st_iinc_4 (y := i4 + 1) h dX4_step_94 (ii_1 _) ?_
  refine st_goto (t := 32) h dX4_step_97 (by decide) ?_
  exact st_sub (ls_s (ls_s (ls_s (ls_s (ls_s ls_e))))) (H32 s1 a1 i2 e0 (i4 + 1) z hF)
set_option maxRecDepth 100000 in
set_option maxHeartbeats 4000000 in
theorem w_X4_step_68 {p : Program} {l : Launch} {e : Env} {s : State} {m : MethodId} {args : Array Value} {below : List Frame} {meth : Method} {c : Code} {G : Gv} (h : Cx p s m args meth c G cX4_step 5 RX4) (hr : meth.sig.returnType = none) {k32 : Sto → Nat → Int32 → Int32 → Int32 → Option Sto} (H32 : ∀ (σ : Sto) (a1 : Nat) (i2 : Int32) (i3 : Int32) (i4 : Int32) (z : Sto), k32 σ a1 i2 i3 i4 = some z → AW p l e (rmD 11 0 0) s m args below meth c (MQ below (QcR G shC νC none (ovC z)) args s 0 0 (gA G)) 0 0 G 5 32 [some (.ref 84), some (.ref a1), some (.int i2), some (.int i3), some (.int i4)] [] shC νC (ovC σ)) : ∀ (σ : Sto) (a1 : Nat) (i2 : Int32) (i4 : Int32) (z : Sto), F_X4_step_68 k32 σ a1 i2 i4 = some z → AW p l e (rmD 11 0 0) s m args below meth c (MQ below (QcR G shC νC none (ovC z)) args s 0 0 (gA G)) 0 0 G 5 68 [some (.ref 84), some (.ref a1), some (.int i2), none, some (.int i4)] [] shC νC (ovC σ) := by
  intro σ a1 i2 i4 z hF
  rw [F_X4_step_68] at hF
  refine st_ic_1 h dX4_step_68 ?_
  refine st_goto (t := 73) h dX4_step_69 (by decide) ?_
  exact st_sub (ls_s (ls_s (ls_s (ls_n (ls_s ls_e))))) (w_X4_step_73 h hr H32 σ a1 i2 i4 1 z hF)
set_option maxRecDepth 100000 in
set_option maxHeartbeats 4000000 in
theorem w_X4_step_32 {p : Program} {l : Launch} {e : Env} {s : State} {m : MethodId} {args : Array Value} {below : List Frame} {meth : Method} {c : Code} {G : Gv} (h : Cx p s m args meth c G cX4_step 5 RX4) (hr : meth.sig.returnType = none) : ∀ (n : Nat) (σ : Sto) (a1 : Nat) (i2 : Int32) (i3 : Int32) (i4 : Int32) (z : Sto), F_X4_step_32 n σ a1 i2 i3 i4 = some z → AW p l e (rmD 11 0 0) s m args below meth c (MQ below (QcR G shC νC none (ovC z)) args s 0 0 (gA G)) 0 0 G 5 32 [some (.ref 84), some (.ref a1), some (.int i2), some (.int i3), some (.int i4)] [] shC νC (ovC σ) := by
  intro n
  induction n with
  | zero => intro σ a1 i2 i3 i4 z hF; cases hF
  | succ n ih =>
    intro σ a1 i2 i3 i4 z hF
    rw [F_X4_step_32] at hF
    refine st_iload_4 h dX4_step_32 ?_
    refine st_aload_1 h dX4_step_34 ?_
    obtain ⟨g1, hF⟩ := gI hF
    refine gX9_0 h fl_X4_83 dX4_step_35 g1 ?_
    refine st_icmp_ge (t := 100) h dX4_step_38 (by decide) (fun q1 => ?_) (fun q1 => ?_)
    · have hF := pI q1 hF
      refine st_aload_0 h dX4_step_100 ?_
      refine gX4_2 h fl_X4_21 dX4_step_101 (congrArg Prod.fst kC_84) ?_
      refine st_aload_1 h dX4_step_104 ?_
      obtain ⟨x1, hx1, hF⟩ := bI hF
      refine st_cVv (vs := [.ref a1]) (st := []) h (w_X10_end hx1) mi_X10_end mv_X10_end ml_X4_90 dX4_step_105 kC_87 rfl ⟨Nat.le_of_ble_eq_true rfl, Nat.le_of_ble_eq_true rfl⟩ (Nat.le_of_ble_eq_true rfl) rfl ?_
      refine st_aload_0 h dX4_step_108 ?_
      refine gX4_4 h fl_X4_28 dX4_step_109 (congrArg Prod.fst kC_84) ?_
      refine st_iload_2 h dX4_step_112 ?_
      refine st_ic_4 h dX4_step_113 ?_
      refine st_iadd h dX4_step_114 ?_
      refine st_ic_0 h dX4_step_115 ?_
      refine st_iadd h dX4_step_116 ?_
      refine st_aload_0 h dX4_step_117 ?_
      refine gX4_4 h fl_X4_28 dX4_step_118 (congrArg Prod.fst kC_84) ?_
      refine st_iload_2 h dX4_step_121 ?_
      refine st_ic_0 h dX4_step_122 ?_
      refine st_iadd h dX4_step_123 ?_
      obtain ⟨g2, hF⟩ := gI hF
      refine iaC h dX4_step_124 kC_97 g2 ?_
      refine st_aload_0 h dX4_step_125 ?_
      refine gX4_1 h fl_X4_12 dX4_step_126 (congrArg Prod.fst kC_84) ?_
      refine gX7_2 h fl_X4_94 dX4_step_129 (congrArg Prod.fst kC_85) ?_
      refine st_iadd h dX4_step_132 ?_
      obtain ⟨g3, hF⟩ := gI hF
      obtain ⟨s1, hs1, hF⟩ := swI hF
      refine isC h dX4_step_133 kC_97 g3 hs1 ?_
      refine st_aload_0 h dX4_step_134 ?_
      refine gX4_4 h fl_X4_28 dX4_step_135 (congrArg Prod.fst kC_84) ?_
      refine st_iload_2 h dX4_step_138 ?_
      refine st_ic_4 h dX4_step_139 ?_
      refine st_iadd h dX4_step_140 ?_
      refine st_ic_1 h dX4_step_141 ?_
      refine st_iadd h dX4_step_142 ?_
      refine st_aload_0 h dX4_step_143 ?_
      refine gX4_4 h fl_X4_28 dX4_step_144 (congrArg Prod.fst kC_84) ?_
      refine st_iload_2 h dX4_step_147 ?_
      refine st_ic_1 h dX4_step_148 ?_
      refine st_iadd h dX4_step_149 ?_
      obtain ⟨g4, hF⟩ := gI hF
      refine iaC h dX4_step_150 kC_97 g4 ?_
      refine st_aload_1 h dX4_step_151 ?_
      refine st_aload_1 h dX4_step_152 ?_
      refine gX9_8 h fl_X4_97 dX4_step_153 g1 ?_
      refine st_aload_0 h dX4_step_156 ?_
      refine gX4_2 h fl_X4_21 dX4_step_157 (congrArg Prod.fst kC_84) ?_
      refine gX10_2 h fl_X4_57 dX4_step_160 (congrArg Prod.fst kC_87) ?_
      obtain ⟨x2, hx2, hF⟩ := bI hF
      refine st_cVi (vs := [.ref (a1 + 7), .ref (87 + 1)]) (st := [.int (s1.1 97 (ix (i2 + 1))), .int ((i2 + 4) + 1), .ref 97]) h (w_X9_together hx2) mi_X9_together mv_X9_together ml_X4_100 dX4_step_163 (shC_e g1) rfl ⟨Nat.le_of_ble_eq_true rfl, Nat.le_of_ble_eq_true rfl⟩ (Nat.le_of_ble_eq_true rfl) rfl ?_
      refine st_iadd h dX4_step_166 ?_
      obtain ⟨g5, hF⟩ := gI hF
      obtain ⟨s2, hs2, hF⟩ := swI hF
      refine isC h dX4_step_167 kC_97 g5 hs2 ?_
      refine st_aload_0 h dX4_step_168 ?_
      refine gX4_4 h fl_X4_28 dX4_step_169 (congrArg Prod.fst kC_84) ?_
      refine st_iload_2 h dX4_step_172 ?_
      refine st_ic_4 h dX4_step_173 ?_
      refine st_iadd h dX4_step_174 ?_
      refine st_ic_2 h dX4_step_175 ?_
      refine st_iadd h dX4_step_176 ?_
      refine st_aload_1 h dX4_step_177 ?_
      refine st_aload_0 h dX4_step_178 ?_
      refine gX4_2 h fl_X4_21 dX4_step_179 (congrArg Prod.fst kC_84) ?_
      refine gX10_2 h fl_X4_57 dX4_step_182 (congrArg Prod.fst kC_87) ?_
      obtain ⟨x3, hx3, hF⟩ := bI hF
      refine st_cVi (vs := [.ref (87 + 1)]) (st := [.int ((i2 + 4) + 2), .ref 97]) h (w_X9_off hx3) mi_X9_off mv_X9_off ml_X4_60 dX4_step_185 (shC_e g1) rfl ⟨Nat.le_of_ble_eq_true rfl, Nat.le_of_ble_eq_true rfl⟩ (Nat.le_of_ble_eq_true rfl) rfl ?_
      obtain ⟨g6, hF⟩ := gI hF
      obtain ⟨s3, hs3, hF⟩ := swI hF
      refine isC h dX4_step_188 kC_97 g6 hs3 ?_
      refine st_aload_0 h dX4_step_189 ?_
      refine gX4_4 h fl_X4_28 dX4_step_190 (congrArg Prod.fst kC_84) ?_
      refine st_iload_2 h dX4_step_193 ?_
      refine st_ic_4 h dX4_step_194 ?_
      refine st_iadd h dX4_step_195 ?_
      refine st_ic_3 h dX4_step_196 ?_
      refine st_iadd h dX4_step_197 ?_
      refine st_aload_0 h dX4_step_198 ?_
      refine gX4_4 h fl_X4_28 dX4_step_199 (congrArg Prod.fst kC_84) ?_
      refine st_iload_2 h dX4_step_202 ?_
      refine st_ic_3 h dX4_step_203 ?_
      refine st_iadd h dX4_step_204 ?_
      obtain ⟨g7, hF⟩ := gI hF
      refine iaC h dX4_step_205 kC_97 g7 ?_
      refine st_iload_3 h dX4_step_206 ?_
      refine st_if_eq (t := 214) h dX4_step_207 (by decide) (fun q2 => ?_) (fun q2 => ?_)
      · have hF := pI q2 hF
        refine st_ic_0 h dX4_step_214 ?_
        refine st_iadd h dX4_step_215 ?_
        obtain ⟨g8, hF⟩ := gI hF
        obtain ⟨s4, hs4, hF⟩ := swI hF
        refine isC h dX4_step_216 kC_97 g8 hs4 ?_
        cases hF
        exact st_vret h hr dX4_step_217
      · have hF := qI q2 hF
        refine st_ic_1 h dX4_step_210 ?_
        refine st_goto (t := 215) h dX4_step_211 (by decide) ?_
        refine st_iadd h dX4_step_215 ?_
        obtain ⟨g9, hF⟩ := gI hF
        obtain ⟨s5, hs5, hF⟩ := swI hF
        refine isC h dX4_step_216 kC_97 g9 hs5 ?_
        cases hF
        exact st_vret h hr dX4_step_217
    · have hF := qI q1 hF
      refine st_iload_3 h dX4_step_41 ?_
      refine st_if_ne (t := 68) h dX4_step_42 (by decide) (fun q3 => ?_) (fun q3 => ?_)
      · have hF := qI q3 hF
        exact st_sub (ls_s (ls_s (ls_s (ls_n (ls_s ls_e))))) (w_X4_step_68 h hr ih σ a1 i2 i4 z hF)
      · have hF := pI q3 hF
        refine st_aload_0 h dX4_step_45 ?_
        refine gX4_1 h fl_X4_12 dX4_step_46 (congrArg Prod.fst kC_84) ?_
        refine gX7_3 h fl_X4_86 dX4_step_49 (congrArg Prod.fst kC_85) ?_
        refine st_iload_4 h dX4_step_52 ?_
        obtain ⟨g10, hF⟩ := gI hF
        refine iaC h dX4_step_54 (sk_7_3 (congrArg Prod.fst kC_85)) g10 ?_
        refine st_aload_0 h dX4_step_55 ?_
        refine gX4_2 h fl_X4_21 dX4_step_56 (congrArg Prod.fst kC_84) ?_
        refine gX10_2 h fl_X4_57 dX4_step_59 (congrArg Prod.fst kC_87) ?_
        refine st_iload_4 h dX4_step_62 ?_
        refine iaC h dX4_step_64 (sk_10_2 (congrArg Prod.fst kC_87)) g10 ?_
        refine st_icmp_eq (t := 72) h dX4_step_65 (by decide) (fun q4 => ?_) (fun q4 => ?_)
        · have hF := pI q4 hF
          refine st_ic_0 h dX4_step_72 ?_
          exact st_sub (ls_s (ls_s (ls_s (ls_n (ls_s ls_e))))) (w_X4_step_73 h hr ih σ a1 i2 i4 0 z hF)
        · have hF := qI q4 hF
          exact st_sub (ls_s (ls_s (ls_s (ls_n (ls_s ls_e))))) (w_X4_step_68 h hr ih σ a1 i2 i4 z hF)
set_option maxRecDepth 100000 in
set_option maxHeartbeats 4000000 in
theorem w_X4_step {l : Launch} {G : Gv} {σ : Sto} {a1 : Nat} {i2 : Int32} {z : Sto} (hF : F_X4_step σ a1 i2 = some z) : Con l yX4_step cX4_step 5 none 11 G shC νC [.ref 84, .ref a1, .int i2] (ovC σ) none (ovC z) := by
  rw [F_X4_step] at hF
  refine Con_enter (own := RX4) 2 (lv := [some (.ref 84), some (.ref a1), some (.int i2), none, none]) mi_X4_step.2.2.2 rfl (Nat.le_of_ble_eq_true rfl) rfl (fun h hr hin => ?_)
  refine st_aload_0 h dX4_step_0 ?_
  refine gX4_0 h fl_X4_35 dX4_step_1 (congrArg Prod.fst kC_84) ?_
  refine st_aload_1 h dX4_step_4 ?_
  refine st_aload_0 h dX4_step_5 ?_
  refine gX4_2 h fl_X4_21 dX4_step_6 (congrArg Prod.fst kC_84) ?_
  obtain ⟨x1, hx1, hF⟩ := bI hF
  refine st_cVv (vs := [.ref a1, .ref 87]) (st := []) h (w_X8_begin hx1) mi_X8_begin mv_X8_begin ml_X4_70 dX4_step_9 kC_63 rfl ⟨Nat.le_of_ble_eq_true rfl, Nat.le_of_ble_eq_true rfl⟩ (Nat.le_of_ble_eq_true rfl) rfl ?_
  refine st_aload_0 h dX4_step_12 ?_
  refine gX4_0 h fl_X4_35 dX4_step_13 (congrArg Prod.fst kC_84) ?_
  refine st_aload_1 h dX4_step_16 ?_
  obtain ⟨g1, hF⟩ := gI hF
  refine gX9_7 h fl_X4_76 dX4_step_17 g1 ?_
  refine st_aload_0 h dX4_step_20 ?_
  refine gX4_1 h fl_X4_12 dX4_step_21 (congrArg Prod.fst kC_84) ?_
  obtain ⟨x2, hx2, hF⟩ := bI hF
  refine st_cVv (vs := [.ref (a1 + 6), .ref 85]) (st := []) h (w_X8_find hx2) mi_X8_find mv_X8_find ml_X4_79 dX4_step_24 kC_63 rfl ⟨Nat.le_of_ble_eq_true rfl, Nat.le_of_ble_eq_true rfl⟩ (Nat.le_of_ble_eq_true rfl) rfl ?_
  refine st_ic_0 h dX4_step_27 ?_
  refine st_istore_3 h dX4_step_28 ?_
  refine st_ic_0 h dX4_step_29 ?_
  refine st_istore_4 h dX4_step_30 ?_
  exact st_sub (ls_s (ls_s (ls_s (ls_s (ls_s ls_e))))) (w_X4_step_32 h hr FU x2 a1 i2 0 0 z hF)
set_option maxRecDepth 100000 in
set_option maxHeartbeats 4000000 in
theorem w_X4_walk_65 {p : Program} {l : Launch} {e : Env} {s : State} {m : MethodId} {args : Array Value} {below : List Frame} {meth : Method} {c : Code} {G : Gv} (h : Cx p s m args meth c G cX4_walk 5 RX4) (hr : meth.sig.returnType = none) : ∀ (n : Nat) (σ : Sto) (a1 : Nat) (i3 : Int32) (i4 : Int32) (z : Sto), F_X4_walk_65 n σ a1 i3 i4 = some z → AW p l e (rmD 12 0 0) s m args below meth c (MQ below (QcR G shC νC none (ovC z)) args s 0 0 (gA G)) 0 0 G 5 65 [some (.ref 84), some (.ref a1), none, some (.int i3), some (.int i4)] [] shC νC (ovC σ) := by
  intro n
  induction n with
  | zero => intro σ a1 i3 i4 z hF; cases hF
  | succ n ih =>
    intro σ a1 i3 i4 z hF
    rw [F_X4_walk_65] at hF
    refine st_iload_4 h dX4_walk_65 ?_
    refine st_iload_3 h dX4_walk_67 ?_
    refine st_icmp_ge (t := 101) h dX4_walk_68 (by decide) (fun q1 => ?_) (fun q1 => ?_)
    · have hF := pI q1 hF
      cases hF
      exact st_vret h hr dX4_walk_101
    · have hF := qI q1 hF
      refine st_iload_4 h dX4_walk_71 ?_
      refine st_bipush (v := 8) h dX4_walk_73 (by decide) ?_
      refine st_icmp_ge (t := 101) h dX4_walk_75 (by decide) (fun q2 => ?_) (fun q2 => ?_)
      · have hF := pI q2 hF
        cases hF
        exact st_vret h hr dX4_walk_101
      · have hF := qI q2 hF
        refine st_aload_0 h dX4_walk_78 ?_
        refine st_aload_1 h dX4_walk_79 ?_
        refine st_iload_4 h dX4_walk_80 ?_
        refine st_ic_4 h dX4_walk_82 ?_
        refine st_imul h dX4_walk_83 ?_
        obtain ⟨x1, hx1, hF⟩ := bI hF
        refine st_cVv (vs := [.ref a1, .int (i4 * 4)]) (st := []) h (w_X4_step hx1) mi_X4_step mv_X4_step ml_X4_66 dX4_walk_84 kC_84 rfl ⟨Nat.le_of_ble_eq_true rfl, Nat.le_of_ble_eq_true rfl⟩ (Nat.le_of_ble_eq_true rfl) rfl ?_
        refine st_aload_0 h dX4_walk_87 ?_
        refine st_iload_4 h dX4_walk_88 ?_
        refine st_ic_1 h dX4_walk_90 ?_
        refine st_iadd h dX4_walk_91 ?_
        obtain ⟨s1, hs1, hF⟩ := swI hF
        refine pX4_6 h fl_X4_49 dX4_walk_92 (congrArg Prod.fst kC_84) hs1 ?_
        refine st_iinc_4 (y := i4 + 1) h dX4_walk_95 (ii_1 _) ?_
        refine st_goto (t := 65) h dX4_walk_98 (by decide) ?_
        exact st_sub (ls_s (ls_s (ls_n (ls_s (ls_s ls_e))))) (ih s1 a1 i3 (i4 + 1) z hF)
set_option maxRecDepth 100000 in
set_option maxHeartbeats 4000000 in
theorem w_X4_walk {l : Launch} {G : Gv} {σ : Sto} {a1 : Nat} {a2 : Nat} {i3 : Int32} {z : Sto} (hF : F_X4_walk σ a1 a2 i3 = some z) : Con l yX4_walk cX4_walk 5 none 12 G shC νC [.ref 84, .ref a1, .ref a2, .int i3] (ovC σ) none (ovC z) := by
  rw [F_X4_walk] at hF
  refine Con_enter (own := RX4) 1 (lv := [some (.ref 84), some (.ref a1), some (.ref a2), some (.int i3), none]) mi_X4_walk.2.2.2 rfl (Nat.le_of_ble_eq_true rfl) rfl (fun h hr hin => ?_)
  refine st_aload_0 h dX4_walk_0 ?_
  refine gX4_6 h fl_X4_49 dX4_walk_1 (congrArg Prod.fst kC_84) ?_
  refine st_ic_m1 h dX4_walk_4 ?_
  refine st_icmp_ne (t := 59) h dX4_walk_5 (by decide) (fun q1 => ?_) (fun q1 => ?_)
  · have hF := qI q1 hF
    refine st_aload_0 h dX4_walk_59 ?_
    refine gX4_6 h fl_X4_49 dX4_walk_60 (congrArg Prod.fst kC_84) ?_
    refine st_istore_4 h dX4_walk_63 ?_
    exact st_sub (ls_s (ls_s (ls_n (ls_s (ls_s ls_e))))) (w_X4_walk_65 h hr FU σ a1 i3 (σ.1 84 6) z hF)
  · have hF := pI q1 hF
    refine st_aload_0 h dX4_walk_8 ?_
    refine gX4_2 h fl_X4_21 dX4_walk_9 (congrArg Prod.fst kC_84) ?_
    refine st_aload_2 h dX4_walk_12 ?_
    obtain ⟨x1, hx1, hF⟩ := bI hF
    refine st_cVv (vs := [.ref a2]) (st := []) h (w_X10_copy hx1) mi_X10_copy mv_X10_copy ml_X4_53 dX4_walk_13 kC_87 rfl ⟨Nat.le_of_ble_eq_true rfl, Nat.le_of_ble_eq_true rfl⟩ (Nat.le_of_ble_eq_true rfl) rfl ?_
    refine st_aload_0 h dX4_walk_16 ?_
    refine gX4_4 h fl_X4_28 dX4_walk_17 (congrArg Prod.fst kC_84) ?_
    refine st_ic_0 h dX4_walk_20 ?_
    refine st_ic_0 h dX4_walk_21 ?_
    obtain ⟨s1, hs1, hF⟩ := swI hF
    refine isC h dX4_walk_22 kC_97 (by decide) hs1 ?_
    refine st_aload_0 h dX4_walk_23 ?_
    refine gX4_4 h fl_X4_28 dX4_walk_24 (congrArg Prod.fst kC_84) ?_
    refine st_ic_1 h dX4_walk_27 ?_
    refine st_ic_0 h dX4_walk_28 ?_
    obtain ⟨s2, hs2, hF⟩ := swI hF
    refine isC h dX4_walk_29 kC_97 (by decide) hs2 ?_
    refine st_aload_0 h dX4_walk_30 ?_
    refine gX4_4 h fl_X4_28 dX4_walk_31 (congrArg Prod.fst kC_84) ?_
    refine st_ic_2 h dX4_walk_34 ?_
    refine st_aload_1 h dX4_walk_35 ?_
    refine st_aload_0 h dX4_walk_36 ?_
    refine gX4_2 h fl_X4_21 dX4_walk_37 (congrArg Prod.fst kC_84) ?_
    refine gX10_2 h fl_X4_57 dX4_walk_40 (congrArg Prod.fst kC_87) ?_
    obtain ⟨g1, hF⟩ := gI hF
    obtain ⟨x2, hx2, hF⟩ := bI hF
    refine st_cVi (vs := [.ref (87 + 1)]) (st := [.int 2, .ref 97]) h (w_X9_off hx2) mi_X9_off mv_X9_off ml_X4_60 dX4_walk_43 (shC_e g1) rfl ⟨Nat.le_of_ble_eq_true rfl, Nat.le_of_ble_eq_true rfl⟩ (Nat.le_of_ble_eq_true rfl) rfl ?_
    obtain ⟨s3, hs3, hF⟩ := swI hF
    refine isC h dX4_walk_46 kC_97 (by decide) hs3 ?_
    refine st_aload_0 h dX4_walk_47 ?_
    refine gX4_4 h fl_X4_28 dX4_walk_48 (congrArg Prod.fst kC_84) ?_
    refine st_ic_3 h dX4_walk_51 ?_
    refine st_ic_0 h dX4_walk_52 ?_
    obtain ⟨s4, hs4, hF⟩ := swI hF
    refine isC h dX4_walk_53 kC_97 (by decide) hs4 ?_
    refine st_aload_0 h dX4_walk_54 ?_
    refine st_ic_0 h dX4_walk_55 ?_
    obtain ⟨s5, hs5, hF⟩ := swI hF
    refine pX4_6 h fl_X4_49 dX4_walk_56 (congrArg Prod.fst kC_84) hs5 ?_
    refine st_aload_0 h dX4_walk_59 ?_
    refine gX4_6 h fl_X4_49 dX4_walk_60 (congrArg Prod.fst kC_84) ?_
    refine st_istore_4 h dX4_walk_63 ?_
    exact st_sub (ls_s (ls_s (ls_n (ls_s (ls_s ls_e))))) (w_X4_walk_65 h hr FU s5 a1 i3 (s5.1 84 6) z hF)
set_option maxRecDepth 100000 in
set_option maxHeartbeats 4000000 in
theorem w_X11_path_16 {p : Program} {l : Launch} {e : Env} {s : State} {m : MethodId} {args : Array Value} {below : List Frame} {meth : Method} {c : Code} {G : Gv} (h : Cx p s m args meth c G cX11_path 3 RX11) (hr : meth.sig.returnType = (some .int)) : ∀ (σ : Sto) (z : (Int32 × Sto)), F_X11_path_16 σ  = some z → AW p l e (rmD 13 0 0) s m args below meth c (MQ below (QcR G shC νC (some (.int z.1)) (ovC z.2)) args s 0 0 (gA G)) 0 0 G 3 16 [some (.ref 0), none, none] [] shC νC (ovC σ) := by
  intro σ z hF
  rw [F_X11_path_16] at hF
  refine st_aload_0 h dX11_path_16 ?_
  refine st_ic_1 h dX11_path_17 ?_
  obtain ⟨x1, hx1, hF⟩ := bI hF
  refine st_cVi (vs := [.int 1]) (st := []) h (w_X11_refuse hx1) mi_X11_refuse mv_X11_refuse ml_X11_99 dX11_path_18 kC_0 rfl ⟨Nat.le_of_ble_eq_true rfl, Nat.le_of_ble_eq_true rfl⟩ (Nat.le_of_ble_eq_true rfl) rfl ?_
  cases hF
  exact st_iret h hr dX11_path_21
set_option maxRecDepth 100000 in
set_option maxHeartbeats 4000000 in
theorem w_X11_path_33 {p : Program} {l : Launch} {e : Env} {s : State} {m : MethodId} {args : Array Value} {below : List Frame} {meth : Method} {c : Code} {G : Gv} (h : Cx p s m args meth c G cX11_path 3 RX11) (hr : meth.sig.returnType = (some .int)) : ∀ (σ : Sto) (z : (Int32 × Sto)), F_X11_path_33 σ  = some z → AW p l e (rmD 13 0 0) s m args below meth c (MQ below (QcR G shC νC (some (.int z.1)) (ovC z.2)) args s 0 0 (gA G)) 0 0 G 3 33 [some (.ref 0), none, none] [] shC νC (ovC σ) := by
  intro σ z hF
  rw [F_X11_path_33] at hF
  refine st_aload_0 h dX11_path_33 ?_
  refine st_ic_2 h dX11_path_34 ?_
  obtain ⟨x1, hx1, hF⟩ := bI hF
  refine st_cVi (vs := [.int 2]) (st := []) h (w_X11_refuse hx1) mi_X11_refuse mv_X11_refuse ml_X11_99 dX11_path_35 kC_0 rfl ⟨Nat.le_of_ble_eq_true rfl, Nat.le_of_ble_eq_true rfl⟩ (Nat.le_of_ble_eq_true rfl) rfl ?_
  cases hF
  exact st_iret h hr dX11_path_38
set_option maxRecDepth 100000 in
set_option maxHeartbeats 4000000 in
theorem w_X11_path {l : Launch} {G : Gv} {σ : Sto} {i1 : Int32} {i2 : Int32} {z : (Int32 × Sto)} (hF : F_X11_path σ i1 i2 = some z) : Con l yX11_path cX11_path 3 (some .int) 13 G shC νC [.ref 0, .int i1, .int i2] (ovC σ) (some (.int z.1)) (ovC z.2) := by
  rw [F_X11_path] at hF
  refine Con_enter (own := RX11) 0 (lv := [some (.ref 0), some (.int i1), some (.int i2)]) mi_X11_path.2.2.2 rfl (Nat.le_of_ble_eq_true rfl) rfl (fun h hr hin => ?_)
  refine st_aload_0 h dX11_path_0 ?_
  refine gX11_13 h fl_X11_131 dX11_path_1 (congrArg Prod.fst kC_0) ?_
  refine st_if_eq (t := 16) h dX11_path_4 (by decide) (fun q1 => ?_) (fun q1 => ?_)
  · have hF := pI q1 hF
    exact st_sub (ls_s (ls_n (ls_n ls_e))) (w_X11_path_16 h hr σ  z hF)
  · have hF := qI q1 hF
    refine st_iload_2 h dX11_path_7 ?_
    refine st_if_lt (t := 16) h dX11_path_8 (by decide) (fun q2 => ?_) (fun q2 => ?_)
    · have hF := pI q2 hF
      exact st_sub (ls_s (ls_n (ls_n ls_e))) (w_X11_path_16 h hr σ  z hF)
    · have hF := qI q2 hF
      refine st_iload_2 h dX11_path_11 ?_
      refine st_ic_3 h dX11_path_12 ?_
      refine st_icmp_le (t := 22) h dX11_path_13 (by decide) (fun q3 => ?_) (fun q3 => ?_)
      · have hF := pI q3 hF
        refine st_iload_1 h dX11_path_22 ?_
        refine st_ic_1 h dX11_path_23 ?_
        refine st_icmp_lt (t := 33) h dX11_path_24 (by decide) (fun q4 => ?_) (fun q4 => ?_)
        · have hF := pI q4 hF
          exact st_sub (ls_s (ls_n (ls_n ls_e))) (w_X11_path_33 h hr σ  z hF)
        · have hF := qI q4 hF
          refine st_iload_1 h dX11_path_27 ?_
          refine st_bipush (v := 8) h dX11_path_28 (by decide) ?_
          refine st_icmp_le (t := 39) h dX11_path_30 (by decide) (fun q5 => ?_) (fun q5 => ?_)
          · have hF := pI q5 hF
            refine st_aload_0 h dX11_path_39 ?_
            refine gX11_8 h fl_X11_66 dX11_path_40 (congrArg Prod.fst kC_0) ?_
            refine st_aload_0 h dX11_path_43 ?_
            obtain ⟨x1, hx1, hF⟩ := bI hF
            refine gX11_11 h fl_X11_83 dX11_path_44 hx1 ?_
            refine st_aload_0 h dX11_path_47 ?_
            refine gX11_2 h fl_X11_23 dX11_path_48 (congrArg Prod.fst kC_0) ?_
            refine st_iload_1 h dX11_path_51 ?_
            obtain ⟨x2, hx2, hF⟩ := bI hF
            refine st_cVv (vs := [.ref x1, .ref 3, .int i1]) (st := []) h (w_X4_walk hx2) mi_X4_walk mv_X4_walk ml_X11_246 dX11_path_52 kC_84 rfl ⟨Nat.le_of_ble_eq_true rfl, Nat.le_of_ble_eq_true rfl⟩ (Nat.le_of_ble_eq_true rfl) rfl ?_
            refine st_aload_0 h dX11_path_55 ?_
            refine st_aload_0 h dX11_path_56 ?_
            refine gX11_8 h fl_X11_66 dX11_path_57 (congrArg Prod.fst kC_0) ?_
            refine gX4_4 h fl_X11_250 dX11_path_60 (congrArg Prod.fst kC_84) ?_
            refine st_iload_1 h dX11_path_63 ?_
            refine st_ic_4 h dX11_path_64 ?_
            refine st_imul h dX11_path_65 ?_
            refine st_iload_2 h dX11_path_66 ?_
            refine st_iadd h dX11_path_67 ?_
            obtain ⟨g1, hF⟩ := gI hF
            refine iaC h dX11_path_68 kC_97 g1 ?_
            obtain ⟨x3, hx3, hF⟩ := bI hF
            refine st_cVi (vs := [.int (x2.1 97 (ix ((i1 * 4) + i2)))]) (st := []) h (w_X11_answer hx3) mi_X11_answer mv_X11_answer ml_X11_125 dX11_path_69 kC_0 rfl ⟨Nat.le_of_ble_eq_true rfl, Nat.le_of_ble_eq_true rfl⟩ (Nat.le_of_ble_eq_true rfl) rfl ?_
            cases hF
            exact st_iret h hr dX11_path_72
          · have hF := qI q5 hF
            exact st_sub (ls_s (ls_n (ls_n ls_e))) (w_X11_path_33 h hr σ  z hF)
      · have hF := qI q3 hF
        exact st_sub (ls_s (ls_n (ls_n ls_e))) (w_X11_path_16 h hr σ  z hF)
set_option maxRecDepth 100000 in
set_option maxHeartbeats 4000000 in
theorem w_X11_noBuyer_22 {p : Program} {l : Launch} {e : Env} {s : State} {m : MethodId} {args : Array Value} {below : List Frame} {meth : Method} {c : Code} {G : Gv} (h : Cx p s m args meth c G cX11_noBuyer 2 RX11) (hr : meth.sig.returnType = (some .boolean)) : ∀ (σ : Sto) (z : Int32), F_X11_noBuyer_22 σ  = some z → AW p l e (rmD 1 0 0) s m args below meth c (MQ below (QcR G shC νC (some (.int z)) (ovC σ)) args s 0 0 (gA G)) 0 0 G 2 22 [none, none] [] shC νC (ovC σ) := by
  intro σ z hF
  rw [F_X11_noBuyer_22] at hF
  refine st_ic_1 h dX11_noBuyer_22 ?_
  refine st_goto (t := 27) h dX11_noBuyer_23 (by decide) ?_
  cases hF
  exact st_zret h hr (Or.inr rfl) dX11_noBuyer_27
set_option maxRecDepth 100000 in
set_option maxHeartbeats 4000000 in
theorem w_X11_noBuyer {l : Launch} {G : Gv} {σ : Sto} {i1 : Int32} {z : Int32} (hF : F_X11_noBuyer σ i1 = some z) : Con l yX11_noBuyer cX11_noBuyer 2 (some .boolean) 1 G shC νC [.ref 0, .int i1] (ovC σ) (some (.int z)) (ovC σ) := by
  rw [F_X11_noBuyer] at hF
  refine Con_enter (own := RX11) 0 (lv := [some (.ref 0), some (.int i1)]) mi_X11_noBuyer.2.2.2 rfl (Nat.le_of_ble_eq_true rfl) rfl (fun h hr hin => ?_)
  refine st_aload_0 h dX11_noBuyer_0 ?_
  refine gX11_13 h fl_X11_131 dX11_noBuyer_1 (congrArg Prod.fst kC_0) ?_
  refine st_if_eq (t := 22) h dX11_noBuyer_4 (by decide) (fun q1 => ?_) (fun q1 => ?_)
  · have hF := pI q1 hF
    exact st_sub (ls_n (ls_n ls_e)) (w_X11_noBuyer_22 h hr σ  z hF)
  · have hF := qI q1 hF
    refine st_iload_1 h dX11_noBuyer_7 ?_
    refine st_if_lt (t := 22) h dX11_noBuyer_8 (by decide) (fun q2 => ?_) (fun q2 => ?_)
    · have hF := pI q2 hF
      exact st_sub (ls_n (ls_n ls_e)) (w_X11_noBuyer_22 h hr σ  z hF)
    · have hF := qI q2 hF
      refine st_iload_1 h dX11_noBuyer_11 ?_
      refine st_aload_0 h dX11_noBuyer_12 ?_
      obtain ⟨x1, hx1, hF⟩ := bI hF
      refine gX11_11 h fl_X11_83 dX11_noBuyer_13 hx1 ?_
      obtain ⟨g1, hF⟩ := gI hF
      refine gX9_1 h fl_X11_266 dX11_noBuyer_16 g1 ?_
      refine st_icmp_lt (t := 26) h dX11_noBuyer_19 (by decide) (fun q3 => ?_) (fun q3 => ?_)
      · have hF := pI q3 hF
        refine st_ic_0 h dX11_noBuyer_26 ?_
        cases hF
        exact st_zret h hr (Or.inl rfl) dX11_noBuyer_27
      · have hF := qI q3 hF
        exact st_sub (ls_n (ls_n ls_e)) (w_X11_noBuyer_22 h hr σ  z hF)
set_option maxRecDepth 100000 in
set_option maxHeartbeats 4000000 in
theorem w_X9_burden_5 {p : Program} {l : Launch} {e : Env} {s : State} {m : MethodId} {args : Array Value} {below : List Frame} {meth : Method} {c : Code} {G : Gv} (h : Cx p s m args meth c G cX9_burden 5 RX9) (hr : meth.sig.returnType = (some .int)) : ∀ (n : Nat) (σ : Sto) (a0 : Nat) (i1 : Int32) (a2 : Nat) (i3 : Int32) (i4 : Int32) (z : Int32), F_X9_burden_5 n σ a0 i1 a2 i3 i4 = some z → AW p l e (rmD 1 0 0) s m args below meth c (MQ below (QcR G shC νC (some (.int z)) (ovC σ)) args s 0 0 (gA G)) 0 0 G 5 5 [some (.ref a0), some (.int i1), some (.ref a2), some (.int i3), some (.int i4)] [] shC νC (ovC σ) := by
  intro n
  induction n with
  | zero => intro σ a0 i1 a2 i3 i4 z hF; cases hF
  | succ n ih =>
    intro σ a0 i1 a2 i3 i4 z hF
    rw [F_X9_burden_5] at hF
    refine st_iload_4 h dX9_burden_5 ?_
    refine st_aload_0 h dX9_burden_7 ?_
    obtain ⟨g1, hF⟩ := gI hF
    refine gX9_0 h fl_X9_34 dX9_burden_8 g1 ?_
    refine st_icmp_ge (t := 39) h dX9_burden_11 (by decide) (fun q1 => ?_) (fun q1 => ?_)
    · have hF := pI q1 hF
      refine st_iload_3 h dX9_burden_39 ?_
      cases hF
      exact st_iret h hr dX9_burden_40
    · have hF := qI q1 hF
      refine st_iload_3 h dX9_burden_14 ?_
      refine st_aload_0 h dX9_burden_15 ?_
      refine gX9_4 h fl_X9_19 dX9_burden_16 g1 ?_
      refine st_iload_1 h dX9_burden_19 ?_
      refine st_ic_4 h dX9_burden_20 ?_
      refine st_imul h dX9_burden_21 ?_
      refine st_iload_4 h dX9_burden_22 ?_
      refine st_iadd h dX9_burden_24 ?_
      obtain ⟨g2, hF⟩ := gI hF
      refine iaC h dX9_burden_25 (sk_9_4 g1) g2 ?_
      refine st_aload_2 h dX9_burden_26 ?_
      refine st_iload_4 h dX9_burden_27 ?_
      obtain ⟨g3, hF⟩ := gI hF
      obtain ⟨g4, hF⟩ := gI hF
      refine iaC h dX9_burden_29 g3 g4 ?_
      refine st_imul h dX9_burden_30 ?_
      refine st_iadd h dX9_burden_31 ?_
      obtain ⟨v1, hv1, hF⟩ := swI hF
      refine st_nmi hv1 ?_
      refine st_istore_3 h dX9_burden_32 ?_
      refine st_iinc_4 (y := i4 + 1) h dX9_burden_33 (ii_1 _) ?_
      refine st_goto (t := 5) h dX9_burden_36 (by decide) ?_
      exact st_sub (ls_s (ls_s (ls_s (ls_s (ls_s ls_e))))) (ih σ a0 i1 a2 v1 (i4 + 1) z hF)
set_option maxRecDepth 100000 in
set_option maxHeartbeats 4000000 in
theorem w_X9_burden {l : Launch} {G : Gv} {σ : Sto} {a0 : Nat} {i1 : Int32} {a2 : Nat} {z : Int32} (hF : F_X9_burden σ a0 i1 a2 = some z) : Con l yX9_burden cX9_burden 5 (some .int) 1 G shC νC [.ref a0, .int i1, .ref a2] (ovC σ) (some (.int z)) (ovC σ) := by
  rw [F_X9_burden] at hF
  refine Con_enter (own := RX9) 2 (lv := [some (.ref a0), some (.int i1), some (.ref a2), none, none]) mi_X9_burden.2.2.2 rfl (Nat.le_of_ble_eq_true rfl) rfl (fun h hr hin => ?_)
  refine st_ic_0 h dX9_burden_0 ?_
  refine st_istore_3 h dX9_burden_1 ?_
  refine st_ic_0 h dX9_burden_2 ?_
  refine st_istore_4 h dX9_burden_3 ?_
  exact st_sub (ls_s (ls_s (ls_s (ls_s (ls_s ls_e))))) (w_X9_burden_5 h hr FU σ a0 i1 a2 0 0 z hF)
set_option maxRecDepth 100000 in
set_option maxHeartbeats 4000000 in
theorem w_X9_unitsTogether_4 {p : Program} {l : Launch} {e : Env} {s : State} {m : MethodId} {args : Array Value} {below : List Frame} {meth : Method} {c : Code} {G : Gv} (h : Cx p s m args meth c G cX9_unitsTogether 4 RX9) (hr : meth.sig.returnType = (some .int)) : ∀ (n : Nat) (σ : Sto) (a0 : Nat) (i1 : Int32) (i2 : Int32) (i3 : Int32) (z : Int32), F_X9_unitsTogether_4 n σ a0 i1 i2 i3 = some z → AW p l e (rmD 1 0 0) s m args below meth c (MQ below (QcR G shC νC (some (.int z)) (ovC σ)) args s 0 0 (gA G)) 0 0 G 4 4 [some (.ref a0), some (.int i1), some (.int i2), some (.int i3)] [] shC νC (ovC σ) := by
  intro n
  induction n with
  | zero => intro σ a0 i1 i2 i3 z hF; cases hF
  | succ n ih =>
    intro σ a0 i1 i2 i3 z hF
    rw [F_X9_unitsTogether_4] at hF
    refine st_iload_3 h dX9_unitsTogether_4 ?_
    refine st_aload_0 h dX9_unitsTogether_5 ?_
    obtain ⟨g1, hF⟩ := gI hF
    refine gX9_0 h fl_X9_34 dX9_unitsTogether_6 g1 ?_
    refine st_icmp_ge (t := 31) h dX9_unitsTogether_9 (by decide) (fun q1 => ?_) (fun q1 => ?_)
    · have hF := pI q1 hF
      refine st_iload_2 h dX9_unitsTogether_31 ?_
      cases hF
      exact st_iret h hr dX9_unitsTogether_32
    · have hF := qI q1 hF
      refine st_iload_2 h dX9_unitsTogether_12 ?_
      refine st_aload_0 h dX9_unitsTogether_13 ?_
      refine gX9_4 h fl_X9_19 dX9_unitsTogether_14 g1 ?_
      refine st_iload_1 h dX9_unitsTogether_17 ?_
      refine st_ic_4 h dX9_unitsTogether_18 ?_
      refine st_imul h dX9_unitsTogether_19 ?_
      refine st_iload_3 h dX9_unitsTogether_20 ?_
      refine st_iadd h dX9_unitsTogether_21 ?_
      obtain ⟨g2, hF⟩ := gI hF
      refine iaC h dX9_unitsTogether_22 (sk_9_4 g1) g2 ?_
      refine st_iadd h dX9_unitsTogether_23 ?_
      obtain ⟨v1, hv1, hF⟩ := swI hF
      refine st_nmi hv1 ?_
      refine st_istore_2 h dX9_unitsTogether_24 ?_
      refine st_iinc_3 (y := i3 + 1) h dX9_unitsTogether_25 (ii_1 _) ?_
      refine st_goto (t := 4) h dX9_unitsTogether_28 (by decide) ?_
      exact st_sub (ls_s (ls_s (ls_s (ls_s ls_e)))) (ih σ a0 i1 v1 (i3 + 1) z hF)
set_option maxRecDepth 100000 in
set_option maxHeartbeats 4000000 in
theorem w_X9_unitsTogether {l : Launch} {G : Gv} {σ : Sto} {a0 : Nat} {i1 : Int32} {z : Int32} (hF : F_X9_unitsTogether σ a0 i1 = some z) : Con l yX9_unitsTogether cX9_unitsTogether 4 (some .int) 1 G shC νC [.ref a0, .int i1] (ovC σ) (some (.int z)) (ovC σ) := by
  rw [F_X9_unitsTogether] at hF
  refine Con_enter (own := RX9) 2 (lv := [some (.ref a0), some (.int i1), none, none]) mi_X9_unitsTogether.2.2.2 rfl (Nat.le_of_ble_eq_true rfl) rfl (fun h hr hin => ?_)
  refine st_ic_0 h dX9_unitsTogether_0 ?_
  refine st_istore_2 h dX9_unitsTogether_1 ?_
  refine st_ic_0 h dX9_unitsTogether_2 ?_
  refine st_istore_3 h dX9_unitsTogether_3 ?_
  exact st_sub (ls_s (ls_s (ls_s (ls_s ls_e)))) (w_X9_unitsTogether_4 h hr FU σ a0 i1 0 0 z hF)
set_option maxRecDepth 100000 in
set_option maxHeartbeats 4000000 in
theorem w_X11_buyer {l : Launch} {G : Gv} {σ : Sto} {i1 : Int32} {i2 : Int32} {z : (Int32 × Sto)} (hF : F_X11_buyer σ i1 i2 = some z) : Con l yX11_buyer cX11_buyer 3 (some .int) 2 G shC νC [.ref 0, .int i1, .int i2] (ovC σ) (some (.int z.1)) (ovC z.2) := by
  rw [F_X11_buyer] at hF
  refine Con_enter (own := RX11) 0 (lv := [some (.ref 0), some (.int i1), some (.int i2)]) mi_X11_buyer.2.2.2 rfl (Nat.le_of_ble_eq_true rfl) rfl (fun h hr hin => ?_)
  refine st_aload_0 h dX11_buyer_0 ?_
  refine st_iload_1 h dX11_buyer_1 ?_
  obtain ⟨x1, hx1, hF⟩ := bI hF
  refine st_cVi (vs := [.int i1]) (st := []) h (w_X11_noBuyer hx1) mi_X11_noBuyer mv_X11_noBuyer ml_X11_253 dX11_buyer_2 kC_0 rfl ⟨Nat.le_of_ble_eq_true rfl, Nat.le_of_ble_eq_true rfl⟩ (Nat.le_of_ble_eq_true rfl) rfl ?_
  refine st_if_eq (t := 14) h dX11_buyer_5 (by decide) (fun q1 => ?_) (fun q1 => ?_)
  · have hF := pI q1 hF
    refine st_iload_2 h dX11_buyer_14 ?_
    by_cases q2 : i2 = 0
    · have hF := pI q2 hF
      refine st_tableIn (t := 40) h dX11_buyer_15 (by rw [q2]; decide) (by rw [q2]; decide) (by rw [q2]; rfl) (by decide) ?_
      refine st_aload_0 h dX11_buyer_40 ?_
      refine st_aload_0 h dX11_buyer_41 ?_
      obtain ⟨x2, hx2, hF⟩ := bI hF
      refine gX11_11 h fl_X11_83 dX11_buyer_42 hx2 ?_
      refine st_iload_1 h dX11_buyer_45 ?_
      refine st_aload_0 h dX11_buyer_46 ?_
      refine gX11_2 h fl_X11_23 dX11_buyer_47 (congrArg Prod.fst kC_0) ?_
      refine gX10_2 h fl_X11_146 dX11_buyer_50 (congrArg Prod.fst kC_3) ?_
      obtain ⟨g1, hF⟩ := gI hF
      obtain ⟨x3, hx3, hF⟩ := bI hF
      refine st_cVi (vs := [.int i1, .ref (3 + 1)]) (st := [.ref 0]) h (w_X9_burden hx3) mi_X9_burden mv_X9_burden ml_X11_256 dX11_buyer_53 (shC_e g1) rfl ⟨Nat.le_of_ble_eq_true rfl, Nat.le_of_ble_eq_true rfl⟩ (Nat.le_of_ble_eq_true rfl) rfl ?_
      obtain ⟨x4, hx4, hF⟩ := bI hF
      refine st_cVi (vs := [.int x3]) (st := []) h (w_X11_answer hx4) mi_X11_answer mv_X11_answer ml_X11_125 dX11_buyer_56 kC_0 rfl ⟨Nat.le_of_ble_eq_true rfl, Nat.le_of_ble_eq_true rfl⟩ (Nat.le_of_ble_eq_true rfl) rfl ?_
      cases hF
      exact st_iret h hr dX11_buyer_59
    have hF := qI q2 hF
    by_cases q3 : i2 = 1
    · have hF := pI q3 hF
      refine st_tableIn (t := 60) h dX11_buyer_15 (by rw [q3]; decide) (by rw [q3]; decide) (by rw [q3]; rfl) (by decide) ?_
      refine st_aload_0 h dX11_buyer_60 ?_
      refine st_aload_0 h dX11_buyer_61 ?_
      obtain ⟨x5, hx5, hF⟩ := bI hF
      refine gX11_11 h fl_X11_83 dX11_buyer_62 hx5 ?_
      refine st_iload_1 h dX11_buyer_65 ?_
      refine st_aload_0 h dX11_buyer_66 ?_
      refine gX11_2 h fl_X11_23 dX11_buyer_67 (congrArg Prod.fst kC_0) ?_
      refine gX10_3 h fl_X11_173 dX11_buyer_70 (congrArg Prod.fst kC_3) ?_
      obtain ⟨g2, hF⟩ := gI hF
      obtain ⟨x6, hx6, hF⟩ := bI hF
      refine st_cVi (vs := [.int i1, .ref (3 + 2)]) (st := [.ref 0]) h (w_X9_burden hx6) mi_X9_burden mv_X9_burden ml_X11_256 dX11_buyer_73 (shC_e g2) rfl ⟨Nat.le_of_ble_eq_true rfl, Nat.le_of_ble_eq_true rfl⟩ (Nat.le_of_ble_eq_true rfl) rfl ?_
      obtain ⟨x7, hx7, hF⟩ := bI hF
      refine st_cVi (vs := [.int x6]) (st := []) h (w_X11_answer hx7) mi_X11_answer mv_X11_answer ml_X11_125 dX11_buyer_76 kC_0 rfl ⟨Nat.le_of_ble_eq_true rfl, Nat.le_of_ble_eq_true rfl⟩ (Nat.le_of_ble_eq_true rfl) rfl ?_
      cases hF
      exact st_iret h hr dX11_buyer_79
    have hF := qI q3 hF
    by_cases q4 : i2 = 2
    · have hF := pI q4 hF
      refine st_tableIn (t := 80) h dX11_buyer_15 (by rw [q4]; decide) (by rw [q4]; decide) (by rw [q4]; rfl) (by decide) ?_
      refine st_aload_0 h dX11_buyer_80 ?_
      refine st_aload_0 h dX11_buyer_81 ?_
      obtain ⟨x8, hx8, hF⟩ := bI hF
      refine gX11_11 h fl_X11_83 dX11_buyer_82 hx8 ?_
      refine st_iload_1 h dX11_buyer_85 ?_
      obtain ⟨g3, hF⟩ := gI hF
      obtain ⟨x9, hx9, hF⟩ := bI hF
      refine st_cVi (vs := [.int i1]) (st := [.ref 0]) h (w_X9_unitsTogether hx9) mi_X9_unitsTogether mv_X9_unitsTogether ml_X11_260 dX11_buyer_86 (shC_e g3) rfl ⟨Nat.le_of_ble_eq_true rfl, Nat.le_of_ble_eq_true rfl⟩ (Nat.le_of_ble_eq_true rfl) rfl ?_
      obtain ⟨x10, hx10, hF⟩ := bI hF
      refine st_cVi (vs := [.int x9]) (st := []) h (w_X11_answer hx10) mi_X11_answer mv_X11_answer ml_X11_125 dX11_buyer_89 kC_0 rfl ⟨Nat.le_of_ble_eq_true rfl, Nat.le_of_ble_eq_true rfl⟩ (Nat.le_of_ble_eq_true rfl) rfl ?_
      cases hF
      exact st_iret h hr dX11_buyer_92
    have hF := qI q4 hF
    refine st_tableOut (t := 93) h dX11_buyer_15 (tsw_0_2 q2 q3 q4) (by decide) ?_
    refine st_aload_0 h dX11_buyer_93 ?_
    refine st_ic_1 h dX11_buyer_94 ?_
    obtain ⟨x11, hx11, hF⟩ := bI hF
    refine st_cVi (vs := [.int 1]) (st := []) h (w_X11_refuse hx11) mi_X11_refuse mv_X11_refuse ml_X11_99 dX11_buyer_95 kC_0 rfl ⟨Nat.le_of_ble_eq_true rfl, Nat.le_of_ble_eq_true rfl⟩ (Nat.le_of_ble_eq_true rfl) rfl ?_
    cases hF
    exact st_iret h hr dX11_buyer_98
  · have hF := qI q1 hF
    refine st_aload_0 h dX11_buyer_8 ?_
    refine st_ic_1 h dX11_buyer_9 ?_
    obtain ⟨x12, hx12, hF⟩ := bI hF
    refine st_cVi (vs := [.int 1]) (st := []) h (w_X11_refuse hx12) mi_X11_refuse mv_X11_refuse ml_X11_99 dX11_buyer_10 kC_0 rfl ⟨Nat.le_of_ble_eq_true rfl, Nat.le_of_ble_eq_true rfl⟩ (Nat.le_of_ble_eq_true rfl) rfl ?_
    cases hF
    exact st_iret h hr dX11_buyer_13
set_option maxRecDepth 100000 in
set_option maxHeartbeats 4000000 in
theorem w_X11_units_16 {p : Program} {l : Launch} {e : Env} {s : State} {m : MethodId} {args : Array Value} {below : List Frame} {meth : Method} {c : Code} {G : Gv} (h : Cx p s m args meth c G cX11_units 3 RX11) (hr : meth.sig.returnType = (some .int)) : ∀ (σ : Sto) (z : (Int32 × Sto)), F_X11_units_16 σ  = some z → AW p l e (rmD 2 0 0) s m args below meth c (MQ below (QcR G shC νC (some (.int z.1)) (ovC z.2)) args s 0 0 (gA G)) 0 0 G 3 16 [some (.ref 0), none, none] [] shC νC (ovC σ) := by
  intro σ z hF
  rw [F_X11_units_16] at hF
  refine st_aload_0 h dX11_units_16 ?_
  refine st_ic_1 h dX11_units_17 ?_
  obtain ⟨x1, hx1, hF⟩ := bI hF
  refine st_cVi (vs := [.int 1]) (st := []) h (w_X11_refuse hx1) mi_X11_refuse mv_X11_refuse ml_X11_99 dX11_units_18 kC_0 rfl ⟨Nat.le_of_ble_eq_true rfl, Nat.le_of_ble_eq_true rfl⟩ (Nat.le_of_ble_eq_true rfl) rfl ?_
  cases hF
  exact st_iret h hr dX11_units_21
set_option maxRecDepth 100000 in
set_option maxHeartbeats 4000000 in
theorem w_X11_units {l : Launch} {G : Gv} {σ : Sto} {i1 : Int32} {i2 : Int32} {z : (Int32 × Sto)} (hF : F_X11_units σ i1 i2 = some z) : Con l yX11_units cX11_units 3 (some .int) 2 G shC νC [.ref 0, .int i1, .int i2] (ovC σ) (some (.int z.1)) (ovC z.2) := by
  rw [F_X11_units] at hF
  refine Con_enter (own := RX11) 0 (lv := [some (.ref 0), some (.int i1), some (.int i2)]) mi_X11_units.2.2.2 rfl (Nat.le_of_ble_eq_true rfl) rfl (fun h hr hin => ?_)
  refine st_aload_0 h dX11_units_0 ?_
  refine st_iload_1 h dX11_units_1 ?_
  obtain ⟨x1, hx1, hF⟩ := bI hF
  refine st_cVi (vs := [.int i1]) (st := []) h (w_X11_noBuyer hx1) mi_X11_noBuyer mv_X11_noBuyer ml_X11_253 dX11_units_2 kC_0 rfl ⟨Nat.le_of_ble_eq_true rfl, Nat.le_of_ble_eq_true rfl⟩ (Nat.le_of_ble_eq_true rfl) rfl ?_
  refine st_if_ne (t := 16) h dX11_units_5 (by decide) (fun q1 => ?_) (fun q1 => ?_)
  · have hF := qI q1 hF
    exact st_sub (ls_s (ls_n (ls_n ls_e))) (w_X11_units_16 h hr σ  z hF)
  · have hF := pI q1 hF
    refine st_aload_0 h dX11_units_8 ?_
    refine st_iload_2 h dX11_units_9 ?_
    obtain ⟨x2, hx2, hF⟩ := bI hF
    refine st_cVi (vs := [.int i2]) (st := []) h (w_X11_noService hx2) mi_X11_noService mv_X11_noService ml_X11_176 dX11_units_10 kC_0 rfl ⟨Nat.le_of_ble_eq_true rfl, Nat.le_of_ble_eq_true rfl⟩ (Nat.le_of_ble_eq_true rfl) rfl ?_
    refine st_if_eq (t := 22) h dX11_units_13 (by decide) (fun q2 => ?_) (fun q2 => ?_)
    · have hF := pI q2 hF
      refine st_aload_0 h dX11_units_22 ?_
      refine st_aload_0 h dX11_units_23 ?_
      obtain ⟨x3, hx3, hF⟩ := bI hF
      refine gX11_11 h fl_X11_83 dX11_units_24 hx3 ?_
      obtain ⟨g1, hF⟩ := gI hF
      refine gX9_4 h fl_X11_263 dX11_units_27 g1 ?_
      refine st_iload_1 h dX11_units_30 ?_
      refine st_ic_4 h dX11_units_31 ?_
      refine st_imul h dX11_units_32 ?_
      refine st_iload_2 h dX11_units_33 ?_
      refine st_iadd h dX11_units_34 ?_
      obtain ⟨g2, hF⟩ := gI hF
      refine iaC h dX11_units_35 (sk_9_4 g1) g2 ?_
      obtain ⟨x4, hx4, hF⟩ := bI hF
      refine st_cVi (vs := [.int (σ.1 (x3 + 3) (ix ((i1 * 4) + i2)))]) (st := []) h (w_X11_answer hx4) mi_X11_answer mv_X11_answer ml_X11_125 dX11_units_36 kC_0 rfl ⟨Nat.le_of_ble_eq_true rfl, Nat.le_of_ble_eq_true rfl⟩ (Nat.le_of_ble_eq_true rfl) rfl ?_
      cases hF
      exact st_iret h hr dX11_units_39
    · have hF := qI q2 hF
      exact st_sub (ls_s (ls_n (ls_n ls_e))) (w_X11_units_16 h hr σ  z hF)
set_option maxRecDepth 100000 in
set_option maxHeartbeats 4000000 in
theorem w_X11_burdenMore {l : Launch} {G : Gv} {σ : Sto} {i1 : Int32} {z : Int32} (hF : F_X11_burdenMore σ i1 = some z) : Con l yX11_burdenMore cX11_burdenMore 2 (some .int) 2 G shC νC [.ref 0, .int i1] (ovC σ) (some (.int z)) (ovC σ) := by
  rw [F_X11_burdenMore] at hF
  refine Con_enter (own := RX11) 0 (lv := [some (.ref 0), some (.int i1)]) mi_X11_burdenMore.2.2.2 rfl (Nat.le_of_ble_eq_true rfl) rfl (fun h hr hin => ?_)
  refine st_aload_0 h dX11_burdenMore_0 ?_
  obtain ⟨x1, hx1, hF⟩ := bI hF
  refine gX11_11 h fl_X11_83 dX11_burdenMore_1 hx1 ?_
  refine st_iload_1 h dX11_burdenMore_4 ?_
  refine st_aload_0 h dX11_burdenMore_5 ?_
  refine gX11_2 h fl_X11_23 dX11_burdenMore_6 (congrArg Prod.fst kC_0) ?_
  refine gX10_3 h fl_X11_173 dX11_burdenMore_9 (congrArg Prod.fst kC_3) ?_
  obtain ⟨g1, hF⟩ := gI hF
  obtain ⟨x2, hx2, hF⟩ := bI hF
  refine st_cVi (vs := [.int i1, .ref (3 + 2)]) (st := []) h (w_X9_burden hx2) mi_X9_burden mv_X9_burden ml_X11_256 dX11_burdenMore_12 (shC_e g1) rfl ⟨Nat.le_of_ble_eq_true rfl, Nat.le_of_ble_eq_true rfl⟩ (Nat.le_of_ble_eq_true rfl) rfl ?_
  refine st_aload_0 h dX11_burdenMore_15 ?_
  obtain ⟨x3, hx3, hF⟩ := bI hF
  refine gX11_11 h fl_X11_83 dX11_burdenMore_16 hx3 ?_
  refine st_iload_1 h dX11_burdenMore_19 ?_
  refine st_aload_0 h dX11_burdenMore_20 ?_
  refine gX11_2 h fl_X11_23 dX11_burdenMore_21 (congrArg Prod.fst kC_0) ?_
  refine gX10_2 h fl_X11_146 dX11_burdenMore_24 (congrArg Prod.fst kC_3) ?_
  obtain ⟨g2, hF⟩ := gI hF
  obtain ⟨x4, hx4, hF⟩ := bI hF
  refine st_cVi (vs := [.int i1, .ref (3 + 1)]) (st := [.int x2]) h (w_X9_burden hx4) mi_X9_burden mv_X9_burden ml_X11_256 dX11_burdenMore_27 (shC_e g2) rfl ⟨Nat.le_of_ble_eq_true rfl, Nat.le_of_ble_eq_true rfl⟩ (Nat.le_of_ble_eq_true rfl) rfl ?_
  refine st_isub h dX11_burdenMore_30 ?_
  cases hF
  exact st_iret h hr dX11_burdenMore_31
set_option maxRecDepth 100000 in
set_option maxHeartbeats 4000000 in
theorem w_X11_hurt_17 {p : Program} {l : Launch} {e : Env} {s : State} {m : MethodId} {args : Array Value} {below : List Frame} {meth : Method} {c : Code} {G : Gv} (h : Cx p s m args meth c G cX11_hurt 3 RX11) (hr : meth.sig.returnType = (some .int)) : ∀ (n : Nat) (σ : Sto) (i1 : Int32) (i2 : Int32) (z : (Int32 × Sto)), F_X11_hurt_17 n σ i1 i2 = some z → AW p l e (rmD 3 0 0) s m args below meth c (MQ below (QcR G shC νC (some (.int z.1)) (ovC z.2)) args s 0 0 (gA G)) 0 0 G 3 17 [some (.ref 0), some (.int i1), some (.int i2)] [] shC νC (ovC σ) := by
  intro n
  induction n with
  | zero => intro σ i1 i2 z hF; cases hF
  | succ n ih =>
    intro σ i1 i2 z hF
    rw [F_X11_hurt_17] at hF
    refine st_iload_2 h dX11_hurt_17 ?_
    refine st_aload_0 h dX11_hurt_18 ?_
    obtain ⟨x1, hx1, hF⟩ := bI hF
    refine gX11_11 h fl_X11_83 dX11_hurt_19 hx1 ?_
    obtain ⟨g1, hF⟩ := gI hF
    refine gX9_1 h fl_X11_266 dX11_hurt_22 g1 ?_
    refine st_icmp_ge (t := 48) h dX11_hurt_25 (by decide) (fun q1 => ?_) (fun q1 => ?_)
    · have hF := pI q1 hF
      refine st_aload_0 h dX11_hurt_48 ?_
      refine st_iload_1 h dX11_hurt_49 ?_
      obtain ⟨x2, hx2, hF⟩ := bI hF
      refine st_cVi (vs := [.int i1]) (st := []) h (w_X11_answer hx2) mi_X11_answer mv_X11_answer ml_X11_125 dX11_hurt_50 kC_0 rfl ⟨Nat.le_of_ble_eq_true rfl, Nat.le_of_ble_eq_true rfl⟩ (Nat.le_of_ble_eq_true rfl) rfl ?_
      cases hF
      exact st_iret h hr dX11_hurt_53
    · have hF := qI q1 hF
      refine st_aload_0 h dX11_hurt_28 ?_
      refine st_iload_2 h dX11_hurt_29 ?_
      obtain ⟨x3, hx3, hF⟩ := bI hF
      refine st_cVi (vs := [.int i2]) (st := []) h (w_X11_burdenMore hx3) mi_X11_burdenMore mv_X11_burdenMore ml_X11_269 dX11_hurt_30 kC_0 rfl ⟨Nat.le_of_ble_eq_true rfl, Nat.le_of_ble_eq_true rfl⟩ (Nat.le_of_ble_eq_true rfl) rfl ?_
      refine st_if_le (t := 42) h dX11_hurt_33 (by decide) (fun q2 => ?_) (fun q2 => ?_)
      · have hF := pI q2 hF
        refine st_iinc_2 (y := i2 + 1) h dX11_hurt_42 (ii_1 _) ?_
        refine st_goto (t := 17) h dX11_hurt_45 (by decide) ?_
        exact st_sub (ls_s (ls_s (ls_s ls_e))) (ih σ i1 (i2 + 1) z hF)
      · have hF := qI q2 hF
        refine st_iload_1 h dX11_hurt_36 ?_
        refine st_ic_1 h dX11_hurt_37 ?_
        refine st_iload_2 h dX11_hurt_38 ?_
        refine st_ishl h dX11_hurt_39 ?_
        refine st_ior h dX11_hurt_40 ?_
        refine st_istore_1 h dX11_hurt_41 ?_
        refine st_iinc_2 (y := i2 + 1) h dX11_hurt_42 (ii_1 _) ?_
        refine st_goto (t := 17) h dX11_hurt_45 (by decide) ?_
        exact st_sub (ls_s (ls_s (ls_s ls_e))) (ih σ (i1 ||| (1 <<< (i2 &&& 31))) (i2 + 1) z hF)
set_option maxRecDepth 100000 in
set_option maxHeartbeats 4000000 in
theorem w_X11_hurt {l : Launch} {G : Gv} {σ : Sto} {z : (Int32 × Sto)} (hF : F_X11_hurt σ  = some z) : Con l yX11_hurt cX11_hurt 3 (some .int) 3 G shC νC [.ref 0] (ovC σ) (some (.int z.1)) (ovC z.2) := by
  rw [F_X11_hurt] at hF
  refine Con_enter (own := RX11) 2 (lv := [some (.ref 0), none, none]) mi_X11_hurt.2.2.2 rfl (Nat.le_of_ble_eq_true rfl) rfl (fun h hr hin => ?_)
  refine st_aload_0 h dX11_hurt_0 ?_
  refine gX11_13 h fl_X11_131 dX11_hurt_1 (congrArg Prod.fst kC_0) ?_
  refine st_if_ne (t := 13) h dX11_hurt_4 (by decide) (fun q1 => ?_) (fun q1 => ?_)
  · have hF := qI q1 hF
    refine st_ic_0 h dX11_hurt_13 ?_
    refine st_istore_1 h dX11_hurt_14 ?_
    refine st_ic_0 h dX11_hurt_15 ?_
    refine st_istore_2 h dX11_hurt_16 ?_
    exact st_sub (ls_s (ls_s (ls_s ls_e))) (w_X11_hurt_17 h hr FU σ 0 0 z hF)
  · have hF := pI q1 hF
    refine st_aload_0 h dX11_hurt_7 ?_
    refine st_ic_1 h dX11_hurt_8 ?_
    obtain ⟨x1, hx1, hF⟩ := bI hF
    refine st_cVi (vs := [.int 1]) (st := []) h (w_X11_refuse hx1) mi_X11_refuse mv_X11_refuse ml_X11_99 dX11_hurt_9 kC_0 rfl ⟨Nat.le_of_ble_eq_true rfl, Nat.le_of_ble_eq_true rfl⟩ (Nat.le_of_ble_eq_true rfl) rfl ?_
    cases hF
    exact st_iret h hr dX11_hurt_12
set_option maxRecDepth 100000 in
set_option maxHeartbeats 4000000 in
theorem w_X11_hardest_20 {p : Program} {l : Launch} {e : Env} {s : State} {m : MethodId} {args : Array Value} {below : List Frame} {meth : Method} {c : Code} {G : Gv} (h : Cx p s m args meth c G cX11_hardest 5 RX11) (hr : meth.sig.returnType = (some .int)) : ∀ (n : Nat) (σ : Sto) (i1 : Int32) (i2 : Int32) (i3 : Int32) (z : (Int32 × Sto)), F_X11_hardest_20 n σ i1 i2 i3 = some z → AW p l e (rmD 3 0 0) s m args below meth c (MQ below (QcR G shC νC (some (.int z.1)) (ovC z.2)) args s 0 0 (gA G)) 0 0 G 5 20 [some (.ref 0), some (.int i1), some (.int i2), some (.int i3), none] [] shC νC (ovC σ) := by
  intro n
  induction n with
  | zero => intro σ i1 i2 i3 z hF; cases hF
  | succ n ih =>
    intro σ i1 i2 i3 z hF
    rw [F_X11_hardest_20] at hF
    refine st_iload_3 h dX11_hardest_20 ?_
    refine st_aload_0 h dX11_hardest_21 ?_
    obtain ⟨x1, hx1, hF⟩ := bI hF
    refine gX11_11 h fl_X11_83 dX11_hardest_22 hx1 ?_
    obtain ⟨g1, hF⟩ := gI hF
    refine gX9_1 h fl_X11_266 dX11_hardest_25 g1 ?_
    refine st_icmp_ge (t := 59) h dX11_hardest_28 (by decide) (fun q1 => ?_) (fun q1 => ?_)
    · have hF := pI q1 hF
      refine st_aload_0 h dX11_hardest_59 ?_
      refine st_iload_1 h dX11_hardest_60 ?_
      obtain ⟨x2, hx2, hF⟩ := bI hF
      refine st_cVi (vs := [.int i1]) (st := []) h (w_X11_answer hx2) mi_X11_answer mv_X11_answer ml_X11_125 dX11_hardest_61 kC_0 rfl ⟨Nat.le_of_ble_eq_true rfl, Nat.le_of_ble_eq_true rfl⟩ (Nat.le_of_ble_eq_true rfl) rfl ?_
      cases hF
      exact st_iret h hr dX11_hardest_64
    · have hF := qI q1 hF
      refine st_aload_0 h dX11_hardest_31 ?_
      refine st_iload_3 h dX11_hardest_32 ?_
      obtain ⟨x3, hx3, hF⟩ := bI hF
      refine st_cVi (vs := [.int i3]) (st := []) h (w_X11_burdenMore hx3) mi_X11_burdenMore mv_X11_burdenMore ml_X11_269 dX11_hardest_33 kC_0 rfl ⟨Nat.le_of_ble_eq_true rfl, Nat.le_of_ble_eq_true rfl⟩ (Nat.le_of_ble_eq_true rfl) rfl ?_
      refine st_istore_4 h dX11_hardest_36 ?_
      refine st_iload_1 h dX11_hardest_38 ?_
      refine st_if_lt (t := 48) h dX11_hardest_39 (by decide) (fun q2 => ?_) (fun q2 => ?_)
      · have hF := pI q2 hF
        refine st_iload_3 h dX11_hardest_48 ?_
        refine st_istore_1 h dX11_hardest_49 ?_
        refine st_iload_4 h dX11_hardest_50 ?_
        refine st_istore_2 h dX11_hardest_52 ?_
        refine st_iinc_3 (y := i3 + 1) h dX11_hardest_53 (ii_1 _) ?_
        refine st_goto (t := 20) h dX11_hardest_56 (by decide) ?_
        exact st_sub (ls_s (ls_s (ls_s (ls_s (ls_n ls_e))))) (ih σ i3 x3 (i3 + 1) z hF)
      · have hF := qI q2 hF
        refine st_iload_4 h dX11_hardest_42 ?_
        refine st_iload_2 h dX11_hardest_44 ?_
        refine st_icmp_le (t := 53) h dX11_hardest_45 (by decide) (fun q3 => ?_) (fun q3 => ?_)
        · have hF := pI q3 hF
          refine st_iinc_3 (y := i3 + 1) h dX11_hardest_53 (ii_1 _) ?_
          refine st_goto (t := 20) h dX11_hardest_56 (by decide) ?_
          exact st_sub (ls_s (ls_s (ls_s (ls_s (ls_n ls_e))))) (ih σ i1 i2 (i3 + 1) z hF)
        · have hF := qI q3 hF
          refine st_iload_3 h dX11_hardest_48 ?_
          refine st_istore_1 h dX11_hardest_49 ?_
          refine st_iload_4 h dX11_hardest_50 ?_
          refine st_istore_2 h dX11_hardest_52 ?_
          refine st_iinc_3 (y := i3 + 1) h dX11_hardest_53 (ii_1 _) ?_
          refine st_goto (t := 20) h dX11_hardest_56 (by decide) ?_
          exact st_sub (ls_s (ls_s (ls_s (ls_s (ls_n ls_e))))) (ih σ i3 x3 (i3 + 1) z hF)
set_option maxRecDepth 100000 in
set_option maxHeartbeats 4000000 in
theorem w_X11_hardest {l : Launch} {G : Gv} {σ : Sto} {z : (Int32 × Sto)} (hF : F_X11_hardest σ  = some z) : Con l yX11_hardest cX11_hardest 5 (some .int) 3 G shC νC [.ref 0] (ovC σ) (some (.int z.1)) (ovC z.2) := by
  rw [F_X11_hardest] at hF
  refine Con_enter (own := RX11) 4 (lv := [some (.ref 0), none, none, none, none]) mi_X11_hardest.2.2.2 rfl (Nat.le_of_ble_eq_true rfl) rfl (fun h hr hin => ?_)
  refine st_aload_0 h dX11_hardest_0 ?_
  refine gX11_13 h fl_X11_131 dX11_hardest_1 (congrArg Prod.fst kC_0) ?_
  refine st_if_ne (t := 13) h dX11_hardest_4 (by decide) (fun q1 => ?_) (fun q1 => ?_)
  · have hF := qI q1 hF
    refine st_bipush (v := (-2)) h dX11_hardest_13 (by decide) ?_
    refine st_istore_1 h dX11_hardest_15 ?_
    refine st_ic_0 h dX11_hardest_16 ?_
    refine st_istore_2 h dX11_hardest_17 ?_
    refine st_ic_0 h dX11_hardest_18 ?_
    refine st_istore_3 h dX11_hardest_19 ?_
    exact st_sub (ls_s (ls_s (ls_s (ls_s (ls_n ls_e))))) (w_X11_hardest_20 h hr FU σ (-2) 0 0 z hF)
  · have hF := pI q1 hF
    refine st_aload_0 h dX11_hardest_7 ?_
    refine st_ic_1 h dX11_hardest_8 ?_
    obtain ⟨x1, hx1, hF⟩ := bI hF
    refine st_cVi (vs := [.int 1]) (st := []) h (w_X11_refuse hx1) mi_X11_refuse mv_X11_refuse ml_X11_99 dX11_hardest_9 kC_0 rfl ⟨Nat.le_of_ble_eq_true rfl, Nat.le_of_ble_eq_true rfl⟩ (Nat.le_of_ble_eq_true rfl) rfl ?_
    cases hF
    exact st_iret h hr dX11_hardest_12
set_option maxRecDepth 100000 in
set_option maxHeartbeats 4000000 in
theorem w_X8_addBuyer_12 {p : Program} {l : Launch} {e : Env} {s : State} {m : MethodId} {args : Array Value} {below : List Frame} {meth : Method} {c : Code} {G : Gv} (h : Cx p s m args meth c G cX8_addBuyer 5 RX8) (hr : meth.sig.returnType = none) : ∀ (n : Nat) (σ : Sto) (a1 : Nat) (a2 : Nat) (i3 : Int32) (i4 : Int32) (z : Sto), F_X8_addBuyer_12 n σ a1 a2 i3 i4 = some z → AW p l e (rmD 2 0 0) s m args below meth c (MQ below (QcR G shC νC none (ovC z)) args s 0 0 (gA G)) 0 0 G 5 12 [some (.ref 63), some (.ref a1), some (.ref a2), some (.int i3), some (.int i4)] [] shC νC (ovC σ) := by
  intro n
  induction n with
  | zero => intro σ a1 a2 i3 i4 z hF; cases hF
  | succ n ih =>
    intro σ a1 a2 i3 i4 z hF
    rw [F_X8_addBuyer_12] at hF
    refine st_iload_4 h dX8_addBuyer_12 ?_
    refine st_aload_0 h dX8_addBuyer_14 ?_
    refine gX8_0 h fl_X8_51 dX8_addBuyer_15 (congrArg Prod.fst kC_63) ?_
    refine st_icmp_ge (t := 52) h dX8_addBuyer_18 (by decide) (fun q1 => ?_) (fun q1 => ?_)
    · have hF := pI q1 hF
      refine st_aload_0 h dX8_addBuyer_52 ?_
      refine gX8_3 h fl_X8_15 dX8_addBuyer_53 (congrArg Prod.fst kC_63) ?_
      refine st_aload_0 h dX8_addBuyer_56 ?_
      refine gX8_1 h fl_X8_52 dX8_addBuyer_57 (congrArg Prod.fst kC_63) ?_
      refine st_aload_1 h dX8_addBuyer_60 ?_
      refine st_iload_3 h dX8_addBuyer_61 ?_
      refine st_aload_2 h dX8_addBuyer_62 ?_
      obtain ⟨g1, hF⟩ := gI hF
      refine gX10_2 h fl_X8_74 dX8_addBuyer_63 g1 ?_
      obtain ⟨g2, hF⟩ := gI hF
      obtain ⟨x1, hx1, hF⟩ := bI hF
      refine st_cVi (vs := [.int i3, .ref (a2 + 1)]) (st := [.int (σ.1 63 1), .ref 65]) h (w_X9_burden hx1) mi_X9_burden mv_X9_burden ml_X8_77 dX8_addBuyer_66 (shC_e g2) rfl ⟨Nat.le_of_ble_eq_true rfl, Nat.le_of_ble_eq_true rfl⟩ (Nat.le_of_ble_eq_true rfl) rfl ?_
      obtain ⟨g3, hF⟩ := gI hF
      obtain ⟨s1, hs1, hF⟩ := swI hF
      refine isC h dX8_addBuyer_69 kC_65 g3 hs1 ?_
      refine st_aload_0 h dX8_addBuyer_70 ?_
      refine st_dup h rfl dX8_addBuyer_71 ?_
      refine gX8_1 h fl_X8_52 dX8_addBuyer_72 (congrArg Prod.fst kC_63) ?_
      refine st_ic_1 h dX8_addBuyer_75 ?_
      refine st_iadd h dX8_addBuyer_76 ?_
      obtain ⟨s2, hs2, hF⟩ := swI hF
      refine pX8_1 h fl_X8_52 dX8_addBuyer_77 (congrArg Prod.fst kC_63) hs2 ?_
      cases hF
      exact st_vret h hr dX8_addBuyer_80
    · have hF := qI q1 hF
      refine st_aload_0 h dX8_addBuyer_21 ?_
      refine gX8_2 h fl_X8_11 dX8_addBuyer_22 (congrArg Prod.fst kC_63) ?_
      refine st_aload_0 h dX8_addBuyer_25 ?_
      refine gX8_1 h fl_X8_52 dX8_addBuyer_26 (congrArg Prod.fst kC_63) ?_
      refine st_ic_4 h dX8_addBuyer_29 ?_
      refine st_imul h dX8_addBuyer_30 ?_
      refine st_iload_4 h dX8_addBuyer_31 ?_
      refine st_iadd h dX8_addBuyer_33 ?_
      refine st_aload_1 h dX8_addBuyer_34 ?_
      obtain ⟨g4, hF⟩ := gI hF
      refine gX9_4 h fl_X8_71 dX8_addBuyer_35 g4 ?_
      refine st_iload_3 h dX8_addBuyer_38 ?_
      refine st_ic_4 h dX8_addBuyer_39 ?_
      refine st_imul h dX8_addBuyer_40 ?_
      refine st_iload_4 h dX8_addBuyer_41 ?_
      refine st_iadd h dX8_addBuyer_43 ?_
      obtain ⟨g5, hF⟩ := gI hF
      refine iaC h dX8_addBuyer_44 (sk_9_4 g4) g5 ?_
      obtain ⟨g6, hF⟩ := gI hF
      obtain ⟨s3, hs3, hF⟩ := swI hF
      refine isC h dX8_addBuyer_45 kC_64 g6 hs3 ?_
      refine st_iinc_4 (y := i4 + 1) h dX8_addBuyer_46 (ii_1 _) ?_
      refine st_goto (t := 12) h dX8_addBuyer_49 (by decide) ?_
      exact st_sub (ls_s (ls_s (ls_s (ls_s (ls_s ls_e))))) (ih s3 a1 a2 i3 (i4 + 1) z hF)
set_option maxRecDepth 100000 in
set_option maxHeartbeats 4000000 in
theorem w_X8_addBuyer {l : Launch} {G : Gv} {σ : Sto} {a1 : Nat} {a2 : Nat} {i3 : Int32} {z : Sto} (hF : F_X8_addBuyer σ a1 a2 i3 = some z) : Con l yX8_addBuyer cX8_addBuyer 5 none 2 G shC νC [.ref 63, .ref a1, .ref a2, .int i3] (ovC σ) none (ovC z) := by
  rw [F_X8_addBuyer] at hF
  refine Con_enter (own := RX8) 1 (lv := [some (.ref 63), some (.ref a1), some (.ref a2), some (.int i3), none]) mi_X8_addBuyer.2.2.2 rfl (Nat.le_of_ble_eq_true rfl) rfl (fun h hr hin => ?_)
  refine st_aload_0 h dX8_addBuyer_0 ?_
  refine gX8_1 h fl_X8_52 dX8_addBuyer_1 (congrArg Prod.fst kC_63) ?_
  refine st_ic_5 h dX8_addBuyer_4 ?_
  refine st_icmp_lt (t := 9) h dX8_addBuyer_5 (by decide) (fun q1 => ?_) (fun q1 => ?_)
  · have hF := pI q1 hF
    refine st_ic_0 h dX8_addBuyer_9 ?_
    refine st_istore_4 h dX8_addBuyer_10 ?_
    exact st_sub (ls_s (ls_s (ls_s (ls_s (ls_s ls_e))))) (w_X8_addBuyer_12 h hr FU σ a1 a2 i3 0 z hF)
  · have hF := qI q1 hF
    cases hF
    exact st_vret h hr dX8_addBuyer_8
set_option maxRecDepth 100000 in
set_option maxHeartbeats 4000000 in
theorem w_X2_findGentle_21 {p : Program} {l : Launch} {e : Env} {s : State} {m : MethodId} {args : Array Value} {below : List Frame} {meth : Method} {c : Code} {G : Gv} (h : Cx p s m args meth c G cX2_findGentle 4 RX2) (hr : meth.sig.returnType = (some (.object "BasketCap$Row"))) : ∀ (n : Nat) (σ : Sto) (a1 : Nat) (a2 : Nat) (i3 : Int32) (z : (Nat × Sto)), F_X2_findGentle_21 n σ a1 a2 i3 = some z → AW p l e (rmD 11 0 0) s m args below meth c (MQ below (QcR G shC νC (some (.ref z.1)) (ovC z.2)) args s 0 0 (gA G)) 0 0 G 4 21 [some (.ref 75), some (.ref a1), some (.ref a2), some (.int i3)] [] shC νC (ovC σ) := by
  intro n
  induction n with
  | zero => intro σ a1 a2 i3 z hF; cases hF
  | succ n ih =>
    intro σ a1 a2 i3 z hF
    rw [F_X2_findGentle_21] at hF
    refine st_iload_3 h dX2_findGentle_21 ?_
    refine st_aload_1 h dX2_findGentle_22 ?_
    obtain ⟨g1, hF⟩ := gI hF
    refine gX9_1 h fl_X2_58 dX2_findGentle_23 g1 ?_
    refine st_icmp_ge (t := 45) h dX2_findGentle_26 (by decide) (fun q1 => ?_) (fun q1 => ?_)
    · have hF := pI q1 hF
      refine st_aload_0 h dX2_findGentle_45 ?_
      refine gX2_0 h fl_X2_27 dX2_findGentle_46 (congrArg Prod.fst kC_75) ?_
      refine st_aload_1 h dX2_findGentle_49 ?_
      refine gX9_7 h fl_X2_45 dX2_findGentle_50 g1 ?_
      refine st_aload_0 h dX2_findGentle_53 ?_
      refine gX2_3 h fl_X2_21 dX2_findGentle_54 (congrArg Prod.fst kC_75) ?_
      obtain ⟨x1, hx1, hF⟩ := bI hF
      refine st_cVv (vs := [.ref (a1 + 6), .ref 80]) (st := []) h (w_X8_find hx1) mi_X8_find mv_X8_find ml_X2_51 dX2_findGentle_57 kC_63 rfl ⟨Nat.le_of_ble_eq_true rfl, Nat.le_of_ble_eq_true rfl⟩ (Nat.le_of_ble_eq_true rfl) rfl ?_
      refine st_aload_0 h dX2_findGentle_60 ?_
      refine gX2_3 h fl_X2_21 dX2_findGentle_61 (congrArg Prod.fst kC_75) ?_
      cases hF
      exact st_aret h hr dX2_findGentle_64
    · have hF := qI q1 hF
      refine st_aload_0 h dX2_findGentle_29 ?_
      refine gX2_0 h fl_X2_27 dX2_findGentle_30 (congrArg Prod.fst kC_75) ?_
      refine st_aload_1 h dX2_findGentle_33 ?_
      refine st_aload_2 h dX2_findGentle_34 ?_
      refine st_iload_3 h dX2_findGentle_35 ?_
      obtain ⟨x2, hx2, hF⟩ := bI hF
      refine st_cVv (vs := [.ref a1, .ref a2, .int i3]) (st := []) h (w_X8_addBuyer hx2) mi_X8_addBuyer mv_X8_addBuyer ml_X2_61 dX2_findGentle_36 kC_63 rfl ⟨Nat.le_of_ble_eq_true rfl, Nat.le_of_ble_eq_true rfl⟩ (Nat.le_of_ble_eq_true rfl) rfl ?_
      refine st_iinc_3 (y := i3 + 1) h dX2_findGentle_39 (ii_1 _) ?_
      refine st_goto (t := 21) h dX2_findGentle_42 (by decide) ?_
      exact st_sub (ls_s (ls_s (ls_s (ls_s ls_e)))) (ih x2 a1 a2 (i3 + 1) z hF)
set_option maxRecDepth 100000 in
set_option maxHeartbeats 4000000 in
theorem w_X2_findGentle {l : Launch} {G : Gv} {σ : Sto} {a1 : Nat} {a2 : Nat} {z : (Nat × Sto)} (hF : F_X2_findGentle σ a1 a2 = some z) : Con l yX2_findGentle cX2_findGentle 4 (some (.object "BasketCap$Row")) 11 G shC νC [.ref 75, .ref a1, .ref a2] (ovC σ) (some (.ref z.1)) (ovC z.2) := by
  rw [F_X2_findGentle] at hF
  refine Con_enter (own := RX2) 1 (lv := [some (.ref 75), some (.ref a1), some (.ref a2), none]) mi_X2_findGentle.2.2.2 rfl (Nat.le_of_ble_eq_true rfl) rfl (fun h hr hin => ?_)
  refine st_aload_0 h dX2_findGentle_0 ?_
  refine gX2_3 h fl_X2_21 dX2_findGentle_1 (congrArg Prod.fst kC_75) ?_
  refine gX7_0 h fl_X2_31 dX2_findGentle_4 (congrArg Prod.fst kC_80) ?_
  refine st_if_ne (t := 60) h dX2_findGentle_7 (by decide) (fun q1 => ?_) (fun q1 => ?_)
  · have hF := qI q1 hF
    refine st_aload_0 h dX2_findGentle_60 ?_
    refine gX2_3 h fl_X2_21 dX2_findGentle_61 (congrArg Prod.fst kC_75) ?_
    cases hF
    exact st_aret h hr dX2_findGentle_64
  · have hF := pI q1 hF
    refine st_aload_0 h dX2_findGentle_10 ?_
    refine gX2_0 h fl_X2_27 dX2_findGentle_11 (congrArg Prod.fst kC_75) ?_
    refine st_aload_1 h dX2_findGentle_14 ?_
    refine st_aload_2 h dX2_findGentle_15 ?_
    obtain ⟨x1, hx1, hF⟩ := bI hF
    refine st_cVv (vs := [.ref a1, .ref a2]) (st := []) h (w_X8_begin hx1) mi_X8_begin mv_X8_begin ml_X2_39 dX2_findGentle_16 kC_63 rfl ⟨Nat.le_of_ble_eq_true rfl, Nat.le_of_ble_eq_true rfl⟩ (Nat.le_of_ble_eq_true rfl) rfl ?_
    refine st_ic_0 h dX2_findGentle_19 ?_
    refine st_istore_3 h dX2_findGentle_20 ?_
    exact st_sub (ls_s (ls_s (ls_s (ls_s ls_e)))) (w_X2_findGentle_21 h hr FU x1 a1 a2 0 z hF)
set_option maxRecDepth 100000 in
set_option maxHeartbeats 4000000 in
theorem w_X11_gentle {l : Launch} {G : Gv} {σ : Sto} {z : (Int32 × Sto)} (hF : F_X11_gentle σ  = some z) : Con l yX11_gentle cX11_gentle 1 (some .int) 12 G shC νC [.ref 0] (ovC σ) (some (.int z.1)) (ovC z.2) := by
  rw [F_X11_gentle] at hF
  refine Con_enter (own := RX11) 0 (lv := [some (.ref 0)]) mi_X11_gentle.2.2.2 rfl (Nat.le_of_ble_eq_true rfl) rfl (fun h hr hin => ?_)
  refine st_aload_0 h dX11_gentle_0 ?_
  refine st_aload_0 h dX11_gentle_1 ?_
  refine gX11_13 h fl_X11_131 dX11_gentle_2 (congrArg Prod.fst kC_0) ?_
  refine st_if_eq (t := 26) h dX11_gentle_5 (by decide) (fun q1 => ?_) (fun q1 => ?_)
  · have hF := pI q1 hF
    refine st_null h dX11_gentle_26 ?_
    obtain ⟨x1, hx1, hF⟩ := bI hF
    refine st_cVi (vs := [.null]) (st := []) h (w_X11_worthOf_N1 hx1) mi_X11_worthOf mv_X11_worthOf ml_X11_224 dX11_gentle_27 kC_0 rfl ⟨Nat.le_of_ble_eq_true rfl, Nat.le_of_ble_eq_true rfl⟩ (Nat.le_of_ble_eq_true rfl) rfl ?_
    cases hF
    exact st_iret h hr dX11_gentle_30
  · have hF := qI q1 hF
    refine st_aload_0 h dX11_gentle_8 ?_
    refine gX11_7 h fl_X11_59 dX11_gentle_9 (congrArg Prod.fst kC_0) ?_
    refine st_aload_0 h dX11_gentle_12 ?_
    obtain ⟨x2, hx2, hF⟩ := bI hF
    refine gX11_11 h fl_X11_83 dX11_gentle_13 hx2 ?_
    refine st_aload_0 h dX11_gentle_16 ?_
    refine gX11_2 h fl_X11_23 dX11_gentle_17 (congrArg Prod.fst kC_0) ?_
    obtain ⟨x3, hx3, hF⟩ := bI hF
    refine st_cVr (vs := [.ref x2, .ref 3]) (st := [.ref 0]) h (w_X2_findGentle hx3) mi_X2_findGentle mv_X2_findGentle ml_X11_272 dX11_gentle_20 kC_75 rfl ⟨Nat.le_of_ble_eq_true rfl, Nat.le_of_ble_eq_true rfl⟩ (Nat.le_of_ble_eq_true rfl) rfl ?_
    refine st_goto (t := 27) h dX11_gentle_23 (by decide) ?_
    obtain ⟨x4, hx4, hF⟩ := bI hF
    refine st_cVi (vs := [.ref x3.1]) (st := []) h (w_X11_worthOf hx4) mi_X11_worthOf mv_X11_worthOf ml_X11_224 dX11_gentle_27 kC_0 rfl ⟨Nat.le_of_ble_eq_true rfl, Nat.le_of_ble_eq_true rfl⟩ (Nat.le_of_ble_eq_true rfl) rfl ?_
    cases hF
    exact st_iret h hr dX11_gentle_30
set_option maxRecDepth 100000 in
set_option maxHeartbeats 4000000 in
theorem w_X11_gentleOf {l : Launch} {G : Gv} {σ : Sto} {i1 : Int32} {z : (Int32 × Sto)} (hF : F_X11_gentleOf σ i1 = some z) : Con l yX11_gentleOf cX11_gentleOf 2 (some .int) 12 G shC νC [.ref 0, .int i1] (ovC σ) (some (.int z.1)) (ovC z.2) := by
  rw [F_X11_gentleOf] at hF
  refine Con_enter (own := RX11) 0 (lv := [some (.ref 0), some (.int i1)]) mi_X11_gentleOf.2.2.2 rfl (Nat.le_of_ble_eq_true rfl) rfl (fun h hr hin => ?_)
  refine st_aload_0 h dX11_gentleOf_0 ?_
  refine st_aload_0 h dX11_gentleOf_1 ?_
  refine st_iload_1 h dX11_gentleOf_2 ?_
  obtain ⟨x1, hx1, hF⟩ := bI hF
  refine st_cVi (vs := [.int i1]) (st := [.ref 0]) h (w_X11_noService hx1) mi_X11_noService mv_X11_noService ml_X11_176 dX11_gentleOf_3 kC_0 rfl ⟨Nat.le_of_ble_eq_true rfl, Nat.le_of_ble_eq_true rfl⟩ (Nat.le_of_ble_eq_true rfl) rfl ?_
  refine st_if_eq (t := 13) h dX11_gentleOf_6 (by decide) (fun q1 => ?_) (fun q1 => ?_)
  · have hF := pI q1 hF
    refine st_aload_0 h dX11_gentleOf_13 ?_
    refine gX11_7 h fl_X11_59 dX11_gentleOf_14 (congrArg Prod.fst kC_0) ?_
    refine st_aload_0 h dX11_gentleOf_17 ?_
    obtain ⟨x2, hx2, hF⟩ := bI hF
    refine gX11_11 h fl_X11_83 dX11_gentleOf_18 hx2 ?_
    refine st_aload_0 h dX11_gentleOf_21 ?_
    refine gX11_2 h fl_X11_23 dX11_gentleOf_22 (congrArg Prod.fst kC_0) ?_
    obtain ⟨x3, hx3, hF⟩ := bI hF
    refine st_cVr (vs := [.ref x2, .ref 3]) (st := [.ref 0]) h (w_X2_findGentle hx3) mi_X2_findGentle mv_X2_findGentle ml_X11_272 dX11_gentleOf_25 kC_75 rfl ⟨Nat.le_of_ble_eq_true rfl, Nat.le_of_ble_eq_true rfl⟩ (Nat.le_of_ble_eq_true rfl) rfl ?_
    refine st_iload_1 h dX11_gentleOf_28 ?_
    obtain ⟨x4, hx4, hF⟩ := bI hF
    refine st_cVi (vs := [.ref x3.1, .int i1]) (st := []) h (w_X11_priceIn hx4) mi_X11_priceIn mv_X11_priceIn ml_X11_228 dX11_gentleOf_29 kC_0 rfl ⟨Nat.le_of_ble_eq_true rfl, Nat.le_of_ble_eq_true rfl⟩ (Nat.le_of_ble_eq_true rfl) rfl ?_
    cases hF
    exact st_iret h hr dX11_gentleOf_32
  · have hF := qI q1 hF
    refine st_null h dX11_gentleOf_9 ?_
    refine st_goto (t := 28) h dX11_gentleOf_10 (by decide) ?_
    refine st_iload_1 h dX11_gentleOf_28 ?_
    obtain ⟨x5, hx5, hF⟩ := bI hF
    refine st_cVi (vs := [.null, .int i1]) (st := []) h (w_X11_priceIn_N1 hx5) mi_X11_priceIn mv_X11_priceIn ml_X11_228 dX11_gentleOf_29 kC_0 rfl ⟨Nat.le_of_ble_eq_true rfl, Nat.le_of_ble_eq_true rfl⟩ (Nat.le_of_ble_eq_true rfl) rfl ?_
    cases hF
    exact st_iret h hr dX11_gentleOf_32
set_option maxRecDepth 100000 in
set_option maxHeartbeats 4000000 in
theorem w_X8_holdNear_2 {p : Program} {l : Launch} {e : Env} {s : State} {m : MethodId} {args : Array Value} {below : List Frame} {meth : Method} {c : Code} {G : Gv} (h : Cx p s m args meth c G cX8_holdNear 4 RX8) (hr : meth.sig.returnType = none) : ∀ (n : Nat) (σ : Sto) (a1 : Nat) (i2 : Int32) (i3 : Int32) (z : Sto), F_X8_holdNear_2 n σ a1 i2 i3 = some z → AW p l e (rmD 1 0 0) s m args below meth c (MQ below (QcR G shC νC none (ovC z)) args s 0 0 (gA G)) 0 0 G 4 2 [some (.ref 63), some (.ref a1), some (.int i2), some (.int i3)] [] shC νC (ovC σ) := by
  intro n
  induction n with
  | zero => intro σ a1 i2 i3 z hF; cases hF
  | succ n ih =>
    intro σ a1 i2 i3 z hF
    rw [F_X8_holdNear_2] at hF
    refine st_iload_3 h dX8_holdNear_2 ?_
    refine st_aload_0 h dX8_holdNear_3 ?_
    refine gX8_0 h fl_X8_51 dX8_holdNear_4 (congrArg Prod.fst kC_63) ?_
    refine st_icmp_ge (t := 47) h dX8_holdNear_7 (by decide) (fun q1 => ?_) (fun q1 => ?_)
    · have hF := pI q1 hF
      cases hF
      exact st_vret h hr dX8_holdNear_47
    · have hF := qI q1 hF
      refine st_aload_0 h dX8_holdNear_10 ?_
      refine gX8_4 h fl_X8_18 dX8_holdNear_11 (congrArg Prod.fst kC_63) ?_
      refine st_iload_3 h dX8_holdNear_14 ?_
      refine st_ic_0 h dX8_holdNear_15 ?_
      refine st_aload_1 h dX8_holdNear_16 ?_
      refine st_iload_3 h dX8_holdNear_17 ?_
      obtain ⟨g1, hF⟩ := gI hF
      obtain ⟨g2, hF⟩ := gI hF
      refine iaC h dX8_holdNear_18 g1 g2 ?_
      refine st_iload_2 h dX8_holdNear_19 ?_
      refine st_isub h dX8_holdNear_20 ?_
      refine st_max h ml_X8_81 mt_max.1 mt_max.2.1 mt_max.2.2 dX8_holdNear_21 ⟨Nat.le_of_ble_eq_true rfl, Nat.le_of_ble_eq_true rfl⟩ (Nat.le_of_ble_eq_true rfl) ⟨Nat.zero_le _, Nat.zero_le _⟩ ?_
      obtain ⟨s1, hs1, hF⟩ := swI hF
      refine isC h dX8_holdNear_24 kC_66 g2 hs1 ?_
      refine st_aload_0 h dX8_holdNear_25 ?_
      refine gX8_5 h fl_X8_21 dX8_holdNear_26 (congrArg Prod.fst kC_63) ?_
      refine st_iload_3 h dX8_holdNear_29 ?_
      refine st_bipush (v := 20) h dX8_holdNear_30 (by decide) ?_
      refine st_aload_1 h dX8_holdNear_32 ?_
      refine st_iload_3 h dX8_holdNear_33 ?_
      refine iaC h dX8_holdNear_34 g1 g2 ?_
      refine st_iload_2 h dX8_holdNear_35 ?_
      refine st_iadd h dX8_holdNear_36 ?_
      refine st_min h ml_X8_65 mt_min.1 mt_min.2.1 mt_min.2.2 dX8_holdNear_37 ⟨Nat.le_of_ble_eq_true rfl, Nat.le_of_ble_eq_true rfl⟩ (Nat.le_of_ble_eq_true rfl) ⟨Nat.zero_le _, Nat.zero_le _⟩ ?_
      obtain ⟨s2, hs2, hF⟩ := swI hF
      refine isC h dX8_holdNear_40 kC_67 g2 hs2 ?_
      refine st_iinc_3 (y := i3 + 1) h dX8_holdNear_41 (ii_1 _) ?_
      refine st_goto (t := 2) h dX8_holdNear_44 (by decide) ?_
      exact st_sub (ls_s (ls_s (ls_s (ls_s ls_e)))) (ih s2 a1 i2 (i3 + 1) z hF)
set_option maxRecDepth 100000 in
set_option maxHeartbeats 4000000 in
theorem w_X8_holdNear {l : Launch} {G : Gv} {σ : Sto} {a1 : Nat} {i2 : Int32} {z : Sto} (hF : F_X8_holdNear σ a1 i2 = some z) : Con l yX8_holdNear cX8_holdNear 4 none 1 G shC νC [.ref 63, .ref a1, .int i2] (ovC σ) none (ovC z) := by
  rw [F_X8_holdNear] at hF
  refine Con_enter (own := RX8) 1 (lv := [some (.ref 63), some (.ref a1), some (.int i2), none]) mi_X8_holdNear.2.2.2 rfl (Nat.le_of_ble_eq_true rfl) rfl (fun h hr hin => ?_)
  refine st_ic_0 h dX8_holdNear_0 ?_
  refine st_istore_3 h dX8_holdNear_1 ?_
  exact st_sub (ls_s (ls_s (ls_s (ls_s ls_e)))) (w_X8_holdNear_2 h hr FU σ a1 i2 0 z hF)
set_option maxRecDepth 100000 in
set_option maxHeartbeats 4000000 in
theorem w_X2_findSteady_18 {p : Program} {l : Launch} {e : Env} {s : State} {m : MethodId} {args : Array Value} {below : List Frame} {meth : Method} {c : Code} {G : Gv} (h : Cx p s m args meth c G cX2_findSteady 4 RX2) (hr : meth.sig.returnType = (some (.object "BasketCap$Row"))) : ∀ (σ : Sto) (a1 : Nat) (a2 : Nat) (i3 : Int32) (z : (Nat × Sto)), F_X2_findSteady_18 σ a1 a2 i3 = some z → AW p l e (rmD 11 0 0) s m args below meth c (MQ below (QcR G shC νC (some (.ref z.1)) (ovC z.2)) args s 0 0 (gA G)) 0 0 G 4 18 [some (.ref 75), some (.ref a1), some (.ref a2), some (.int i3)] [] shC νC (ovC σ) := by
  intro σ a1 a2 i3 z hF
  rw [F_X2_findSteady_18] at hF
  refine st_aload_0 h dX2_findSteady_18 ?_
  refine gX2_0 h fl_X2_27 dX2_findSteady_19 (congrArg Prod.fst kC_75) ?_
  refine st_aload_1 h dX2_findSteady_22 ?_
  refine st_aload_2 h dX2_findSteady_23 ?_
  obtain ⟨x1, hx1, hF⟩ := bI hF
  refine st_cVv (vs := [.ref a1, .ref a2]) (st := []) h (w_X8_begin hx1) mi_X8_begin mv_X8_begin ml_X2_39 dX2_findSteady_24 kC_63 rfl ⟨Nat.le_of_ble_eq_true rfl, Nat.le_of_ble_eq_true rfl⟩ (Nat.le_of_ble_eq_true rfl) rfl ?_
  refine st_aload_0 h dX2_findSteady_27 ?_
  refine gX2_0 h fl_X2_27 dX2_findSteady_28 (congrArg Prod.fst kC_75) ?_
  refine st_aload_2 h dX2_findSteady_31 ?_
  obtain ⟨g1, hF⟩ := gI hF
  refine gX10_2 h fl_X2_68 dX2_findSteady_32 g1 ?_
  refine st_iload_3 h dX2_findSteady_35 ?_
  obtain ⟨x2, hx2, hF⟩ := bI hF
  refine st_cVv (vs := [.ref (a2 + 1), .int i3]) (st := []) h (w_X8_holdNear hx2) mi_X8_holdNear mv_X8_holdNear ml_X2_73 dX2_findSteady_36 kC_63 rfl ⟨Nat.le_of_ble_eq_true rfl, Nat.le_of_ble_eq_true rfl⟩ (Nat.le_of_ble_eq_true rfl) rfl ?_
  refine st_aload_0 h dX2_findSteady_39 ?_
  refine gX2_0 h fl_X2_27 dX2_findSteady_40 (congrArg Prod.fst kC_75) ?_
  refine st_aload_1 h dX2_findSteady_43 ?_
  obtain ⟨g2, hF⟩ := gI hF
  refine gX9_7 h fl_X2_45 dX2_findSteady_44 g2 ?_
  refine st_aload_0 h dX2_findSteady_47 ?_
  refine gX2_4 h fl_X2_24 dX2_findSteady_48 (congrArg Prod.fst kC_75) ?_
  obtain ⟨x3, hx3, hF⟩ := bI hF
  refine st_cVv (vs := [.ref (a1 + 6), .ref 82]) (st := []) h (w_X8_find hx3) mi_X8_find mv_X8_find ml_X2_51 dX2_findSteady_51 kC_63 rfl ⟨Nat.le_of_ble_eq_true rfl, Nat.le_of_ble_eq_true rfl⟩ (Nat.le_of_ble_eq_true rfl) rfl ?_
  refine st_aload_0 h dX2_findSteady_54 ?_
  refine st_iload_3 h dX2_findSteady_55 ?_
  obtain ⟨s1, hs1, hF⟩ := swI hF
  refine pX2_5 h fl_X2_65 dX2_findSteady_56 (congrArg Prod.fst kC_75) hs1 ?_
  refine st_aload_0 h dX2_findSteady_59 ?_
  refine gX2_4 h fl_X2_24 dX2_findSteady_60 (congrArg Prod.fst kC_75) ?_
  cases hF
  exact st_aret h hr dX2_findSteady_63
set_option maxRecDepth 100000 in
set_option maxHeartbeats 4000000 in
theorem w_X2_findSteady {l : Launch} {G : Gv} {σ : Sto} {a1 : Nat} {a2 : Nat} {i3 : Int32} {z : (Nat × Sto)} (hF : F_X2_findSteady σ a1 a2 i3 = some z) : Con l yX2_findSteady cX2_findSteady 4 (some (.object "BasketCap$Row")) 11 G shC νC [.ref 75, .ref a1, .ref a2, .int i3] (ovC σ) (some (.ref z.1)) (ovC z.2) := by
  rw [F_X2_findSteady] at hF
  refine Con_enter (own := RX2) 0 (lv := [some (.ref 75), some (.ref a1), some (.ref a2), some (.int i3)]) mi_X2_findSteady.2.2.2 rfl (Nat.le_of_ble_eq_true rfl) rfl (fun h hr hin => ?_)
  refine st_aload_0 h dX2_findSteady_0 ?_
  refine gX2_4 h fl_X2_24 dX2_findSteady_1 (congrArg Prod.fst kC_75) ?_
  refine gX7_0 h fl_X2_31 dX2_findSteady_4 (congrArg Prod.fst kC_82) ?_
  refine st_if_eq (t := 18) h dX2_findSteady_7 (by decide) (fun q1 => ?_) (fun q1 => ?_)
  · have hF := pI q1 hF
    exact st_sub (ls_s (ls_s (ls_s (ls_s ls_e)))) (w_X2_findSteady_18 h hr σ a1 a2 i3 z hF)
  · have hF := qI q1 hF
    refine st_aload_0 h dX2_findSteady_10 ?_
    refine gX2_5 h fl_X2_65 dX2_findSteady_11 (congrArg Prod.fst kC_75) ?_
    refine st_iload_3 h dX2_findSteady_14 ?_
    refine st_icmp_eq (t := 59) h dX2_findSteady_15 (by decide) (fun q2 => ?_) (fun q2 => ?_)
    · have hF := pI q2 hF
      refine st_aload_0 h dX2_findSteady_59 ?_
      refine gX2_4 h fl_X2_24 dX2_findSteady_60 (congrArg Prod.fst kC_75) ?_
      cases hF
      exact st_aret h hr dX2_findSteady_63
    · have hF := qI q2 hF
      exact st_sub (ls_s (ls_s (ls_s (ls_s ls_e)))) (w_X2_findSteady_18 h hr σ a1 a2 i3 z hF)
set_option maxRecDepth 100000 in
set_option maxHeartbeats 4000000 in
theorem w_X11_steady {l : Launch} {G : Gv} {σ : Sto} {i1 : Int32} {z : (Int32 × Sto)} (hF : F_X11_steady σ i1 = some z) : Con l yX11_steady cX11_steady 3 (some .int) 12 G shC νC [.ref 0, .int i1] (ovC σ) (some (.int z.1)) (ovC z.2) := by
  rw [F_X11_steady] at hF
  refine Con_enter (own := RX11) 1 (lv := [some (.ref 0), some (.int i1), none]) mi_X11_steady.2.2.2 rfl (Nat.le_of_ble_eq_true rfl) rfl (fun h hr hin => ?_)
  refine st_aload_0 h dX11_steady_0 ?_
  refine gX11_13 h fl_X11_131 dX11_steady_1 (congrArg Prod.fst kC_0) ?_
  refine st_if_ne (t := 13) h dX11_steady_4 (by decide) (fun q1 => ?_) (fun q1 => ?_)
  · have hF := qI q1 hF
    refine st_iload_1 h dX11_steady_13 ?_
    obtain ⟨x1, hx1, hF⟩ := bI hF
    refine st_cSi (vs := [.int i1]) (st := []) h (w_X11_noPrice hx1) mi_X11_noPrice ms_X11_noPrice ml_X11_275 dX11_steady_14 rfl ⟨Nat.le_of_ble_eq_true rfl, Nat.le_of_ble_eq_true rfl⟩ (Nat.le_of_ble_eq_true rfl) rfl ?_
    refine st_if_eq (t := 26) h dX11_steady_17 (by decide) (fun q2 => ?_) (fun q2 => ?_)
    · have hF := pI q2 hF
      refine st_aload_0 h dX11_steady_26 ?_
      refine gX11_7 h fl_X11_59 dX11_steady_27 (congrArg Prod.fst kC_0) ?_
      refine st_aload_0 h dX11_steady_30 ?_
      obtain ⟨x2, hx2, hF⟩ := bI hF
      refine gX11_11 h fl_X11_83 dX11_steady_31 hx2 ?_
      refine st_aload_0 h dX11_steady_34 ?_
      refine gX11_2 h fl_X11_23 dX11_steady_35 (congrArg Prod.fst kC_0) ?_
      refine st_iload_1 h dX11_steady_38 ?_
      obtain ⟨x3, hx3, hF⟩ := bI hF
      refine st_cVr (vs := [.ref x2, .ref 3, .int i1]) (st := []) h (w_X2_findSteady hx3) mi_X2_findSteady mv_X2_findSteady ml_X11_278 dX11_steady_39 kC_75 rfl ⟨Nat.le_of_ble_eq_true rfl, Nat.le_of_ble_eq_true rfl⟩ (Nat.le_of_ble_eq_true rfl) rfl ?_
      refine st_astore_2 h dX11_steady_42 ?_
      refine st_aload_2 h dX11_steady_43 ?_
      obtain ⟨g1, hF⟩ := gI hF
      refine gX7_1 h fl_X11_282 dX11_steady_44 g1 ?_
      refine st_if_eq (t := 61) h dX11_steady_47 (by decide) (fun q3 => ?_) (fun q3 => ?_)
      · have hF := pI q3 hF
        refine st_aload_0 h dX11_steady_61 ?_
        refine st_bipush (v := 6) h dX11_steady_62 (by decide) ?_
        obtain ⟨x4, hx4, hF⟩ := bI hF
        refine st_cVi (vs := [.int 6]) (st := []) h (w_X11_refuse hx4) mi_X11_refuse mv_X11_refuse ml_X11_99 dX11_steady_64 kC_0 rfl ⟨Nat.le_of_ble_eq_true rfl, Nat.le_of_ble_eq_true rfl⟩ (Nat.le_of_ble_eq_true rfl) rfl ?_
        cases hF
        exact st_iret h hr dX11_steady_67
      · have hF := qI q3 hF
        refine st_aload_0 h dX11_steady_50 ?_
        refine st_aload_2 h dX11_steady_51 ?_
        refine gX7_2 h fl_X11_287 dX11_steady_52 g1 ?_
        obtain ⟨x5, hx5, hF⟩ := bI hF
        refine st_cVi (vs := [.int (x3.2.1 x3.1 2)]) (st := []) h (w_X11_answer hx5) mi_X11_answer mv_X11_answer ml_X11_125 dX11_steady_55 kC_0 rfl ⟨Nat.le_of_ble_eq_true rfl, Nat.le_of_ble_eq_true rfl⟩ (Nat.le_of_ble_eq_true rfl) rfl ?_
        refine st_goto (t := 67) h dX11_steady_58 (by decide) ?_
        cases hF
        exact st_iret h hr dX11_steady_67
    · have hF := qI q2 hF
      refine st_aload_0 h dX11_steady_20 ?_
      refine st_ic_2 h dX11_steady_21 ?_
      obtain ⟨x6, hx6, hF⟩ := bI hF
      refine st_cVi (vs := [.int 2]) (st := []) h (w_X11_refuse hx6) mi_X11_refuse mv_X11_refuse ml_X11_99 dX11_steady_22 kC_0 rfl ⟨Nat.le_of_ble_eq_true rfl, Nat.le_of_ble_eq_true rfl⟩ (Nat.le_of_ble_eq_true rfl) rfl ?_
      cases hF
      exact st_iret h hr dX11_steady_25
  · have hF := pI q1 hF
    refine st_aload_0 h dX11_steady_7 ?_
    refine st_ic_1 h dX11_steady_8 ?_
    obtain ⟨x7, hx7, hF⟩ := bI hF
    refine st_cVi (vs := [.int 1]) (st := []) h (w_X11_refuse hx7) mi_X11_refuse mv_X11_refuse ml_X11_99 dX11_steady_9 kC_0 rfl ⟨Nat.le_of_ble_eq_true rfl, Nat.le_of_ble_eq_true rfl⟩ (Nat.le_of_ble_eq_true rfl) rfl ?_
    cases hF
    exact st_iret h hr dX11_steady_12
set_option maxRecDepth 100000 in
set_option maxHeartbeats 4000000 in
theorem w_X11_steadyOf {l : Launch} {G : Gv} {σ : Sto} {i1 : Int32} {i2 : Int32} {z : (Int32 × Sto)} (hF : F_X11_steadyOf σ i1 i2 = some z) : Con l yX11_steadyOf cX11_steadyOf 4 (some .int) 12 G shC νC [.ref 0, .int i1, .int i2] (ovC σ) (some (.int z.1)) (ovC z.2) := by
  rw [F_X11_steadyOf] at hF
  refine Con_enter (own := RX11) 1 (lv := [some (.ref 0), some (.int i1), some (.int i2), none]) mi_X11_steadyOf.2.2.2 rfl (Nat.le_of_ble_eq_true rfl) rfl (fun h hr hin => ?_)
  refine st_aload_0 h dX11_steadyOf_0 ?_
  refine st_iload_2 h dX11_steadyOf_1 ?_
  obtain ⟨x1, hx1, hF⟩ := bI hF
  refine st_cVi (vs := [.int i2]) (st := []) h (w_X11_noService hx1) mi_X11_noService mv_X11_noService ml_X11_176 dX11_steadyOf_2 kC_0 rfl ⟨Nat.le_of_ble_eq_true rfl, Nat.le_of_ble_eq_true rfl⟩ (Nat.le_of_ble_eq_true rfl) rfl ?_
  refine st_if_eq (t := 14) h dX11_steadyOf_5 (by decide) (fun q1 => ?_) (fun q1 => ?_)
  · have hF := pI q1 hF
    refine st_iload_1 h dX11_steadyOf_14 ?_
    obtain ⟨x2, hx2, hF⟩ := bI hF
    refine st_cSi (vs := [.int i1]) (st := []) h (w_X11_noPrice hx2) mi_X11_noPrice ms_X11_noPrice ml_X11_275 dX11_steadyOf_15 rfl ⟨Nat.le_of_ble_eq_true rfl, Nat.le_of_ble_eq_true rfl⟩ (Nat.le_of_ble_eq_true rfl) rfl ?_
    refine st_if_eq (t := 27) h dX11_steadyOf_18 (by decide) (fun q2 => ?_) (fun q2 => ?_)
    · have hF := pI q2 hF
      refine st_aload_0 h dX11_steadyOf_27 ?_
      refine gX11_7 h fl_X11_59 dX11_steadyOf_28 (congrArg Prod.fst kC_0) ?_
      refine st_aload_0 h dX11_steadyOf_31 ?_
      obtain ⟨x3, hx3, hF⟩ := bI hF
      refine gX11_11 h fl_X11_83 dX11_steadyOf_32 hx3 ?_
      refine st_aload_0 h dX11_steadyOf_35 ?_
      refine gX11_2 h fl_X11_23 dX11_steadyOf_36 (congrArg Prod.fst kC_0) ?_
      refine st_iload_1 h dX11_steadyOf_39 ?_
      obtain ⟨x4, hx4, hF⟩ := bI hF
      refine st_cVr (vs := [.ref x3, .ref 3, .int i1]) (st := []) h (w_X2_findSteady hx4) mi_X2_findSteady mv_X2_findSteady ml_X11_278 dX11_steadyOf_40 kC_75 rfl ⟨Nat.le_of_ble_eq_true rfl, Nat.le_of_ble_eq_true rfl⟩ (Nat.le_of_ble_eq_true rfl) rfl ?_
      refine st_astore_3 h dX11_steadyOf_43 ?_
      refine st_aload_3 h dX11_steadyOf_44 ?_
      obtain ⟨g1, hF⟩ := gI hF
      refine gX7_1 h fl_X11_282 dX11_steadyOf_45 g1 ?_
      refine st_if_eq (t := 64) h dX11_steadyOf_48 (by decide) (fun q3 => ?_) (fun q3 => ?_)
      · have hF := pI q3 hF
        refine st_aload_0 h dX11_steadyOf_64 ?_
        refine st_bipush (v := 6) h dX11_steadyOf_65 (by decide) ?_
        obtain ⟨x5, hx5, hF⟩ := bI hF
        refine st_cVi (vs := [.int 6]) (st := []) h (w_X11_refuse hx5) mi_X11_refuse mv_X11_refuse ml_X11_99 dX11_steadyOf_67 kC_0 rfl ⟨Nat.le_of_ble_eq_true rfl, Nat.le_of_ble_eq_true rfl⟩ (Nat.le_of_ble_eq_true rfl) rfl ?_
        cases hF
        exact st_iret h hr dX11_steadyOf_70
      · have hF := qI q3 hF
        refine st_aload_0 h dX11_steadyOf_51 ?_
        refine st_aload_3 h dX11_steadyOf_52 ?_
        refine gX7_3 h fl_X11_290 dX11_steadyOf_53 g1 ?_
        refine st_iload_2 h dX11_steadyOf_56 ?_
        obtain ⟨g2, hF⟩ := gI hF
        refine iaC h dX11_steadyOf_57 (sk_7_3 g1) g2 ?_
        obtain ⟨x6, hx6, hF⟩ := bI hF
        refine st_cVi (vs := [.int (x4.2.1 (x4.1 + 1) (ix i2))]) (st := []) h (w_X11_answer hx6) mi_X11_answer mv_X11_answer ml_X11_125 dX11_steadyOf_58 kC_0 rfl ⟨Nat.le_of_ble_eq_true rfl, Nat.le_of_ble_eq_true rfl⟩ (Nat.le_of_ble_eq_true rfl) rfl ?_
        refine st_goto (t := 70) h dX11_steadyOf_61 (by decide) ?_
        cases hF
        exact st_iret h hr dX11_steadyOf_70
    · have hF := qI q2 hF
      refine st_aload_0 h dX11_steadyOf_21 ?_
      refine st_ic_2 h dX11_steadyOf_22 ?_
      obtain ⟨x7, hx7, hF⟩ := bI hF
      refine st_cVi (vs := [.int 2]) (st := []) h (w_X11_refuse hx7) mi_X11_refuse mv_X11_refuse ml_X11_99 dX11_steadyOf_23 kC_0 rfl ⟨Nat.le_of_ble_eq_true rfl, Nat.le_of_ble_eq_true rfl⟩ (Nat.le_of_ble_eq_true rfl) rfl ?_
      cases hF
      exact st_iret h hr dX11_steadyOf_26
  · have hF := qI q1 hF
    refine st_aload_0 h dX11_steadyOf_8 ?_
    refine st_ic_1 h dX11_steadyOf_9 ?_
    obtain ⟨x8, hx8, hF⟩ := bI hF
    refine st_cVi (vs := [.int 1]) (st := []) h (w_X11_refuse hx8) mi_X11_refuse mv_X11_refuse ml_X11_99 dX11_steadyOf_10 kC_0 rfl ⟨Nat.le_of_ble_eq_true rfl, Nat.le_of_ble_eq_true rfl⟩ (Nat.le_of_ble_eq_true rfl) rfl ?_
    cases hF
    exact st_iret h hr dX11_steadyOf_13
set_option maxRecDepth 100000 in
set_option maxHeartbeats 4000000 in
theorem w_X11_commonDivisor_34 {p : Program} {l : Launch} {e : Env} {s : State} {m : MethodId} {args : Array Value} {below : List Frame} {meth : Method} {c : Code} {G : Gv} (h : Cx p s m args meth c G cX11_commonDivisor 6 RX11) (hr : meth.sig.returnType = (some .int)) : ∀ (σ : Sto) (i3 : Int32) (z : Int32), F_X11_commonDivisor_34 σ i3 = some z → AW p l e (rmD 1 0 0) s m args below meth c (MQ below (QcR G shC νC (some (.int z)) (ovC σ)) args s 0 0 (gA G)) 0 0 G 6 34 [none, none, none, some (.int i3), none, none] [] shC νC (ovC σ) := by
  intro σ i3 z hF
  rw [F_X11_commonDivisor_34] at hF
  refine st_iload_3 h dX11_commonDivisor_34 ?_
  refine st_ic_1 h dX11_commonDivisor_35 ?_
  refine st_max h ml_X11_389 mt_max.1 mt_max.2.1 mt_max.2.2 dX11_commonDivisor_36 ⟨Nat.le_of_ble_eq_true rfl, Nat.le_of_ble_eq_true rfl⟩ (Nat.le_of_ble_eq_true rfl) ⟨Nat.zero_le _, Nat.zero_le _⟩ ?_
  cases hF
  exact st_iret h hr dX11_commonDivisor_39
set_option maxRecDepth 100000 in
set_option maxHeartbeats 4000000 in
theorem w_X11_commonDivisor_7 {p : Program} {l : Launch} {e : Env} {s : State} {m : MethodId} {args : Array Value} {below : List Frame} {meth : Method} {c : Code} {G : Gv} (h : Cx p s m args meth c G cX11_commonDivisor 6 RX11) (hr : meth.sig.returnType = (some .int)) : ∀ (n : Nat) (σ : Sto) (i2 : Int32) (i3 : Int32) (i4 : Int32) (z : Int32), F_X11_commonDivisor_7 n σ i2 i3 i4 = some z → AW p l e (rmD 1 0 0) s m args below meth c (MQ below (QcR G shC νC (some (.int z)) (ovC σ)) args s 0 0 (gA G)) 0 0 G 6 7 [none, none, some (.int i2), some (.int i3), some (.int i4), none] [] shC νC (ovC σ) := by
  intro n
  induction n with
  | zero => intro σ i2 i3 i4 z hF; cases hF
  | succ n ih =>
    intro σ i2 i3 i4 z hF
    rw [F_X11_commonDivisor_7] at hF
    refine st_iload_4 h dX11_commonDivisor_7 ?_
    refine st_bipush (v := 64) h dX11_commonDivisor_9 (by decide) ?_
    refine st_icmp_ge (t := 34) h dX11_commonDivisor_11 (by decide) (fun q1 => ?_) (fun q1 => ?_)
    · have hF := pI q1 hF
      exact st_sub (ls_n (ls_n (ls_n (ls_s (ls_n (ls_n ls_e)))))) (w_X11_commonDivisor_34 h hr σ i3 z hF)
    · have hF := qI q1 hF
      refine st_iload_2 h dX11_commonDivisor_14 ?_
      refine st_if_eq (t := 34) h dX11_commonDivisor_15 (by decide) (fun q2 => ?_) (fun q2 => ?_)
      · have hF := pI q2 hF
        exact st_sub (ls_n (ls_n (ls_n (ls_s (ls_n (ls_n ls_e)))))) (w_X11_commonDivisor_34 h hr σ i3 z hF)
      · have hF := qI q2 hF
        refine st_iload_3 h dX11_commonDivisor_18 ?_
        refine st_iload_2 h dX11_commonDivisor_19 ?_
        obtain ⟨g1, hF⟩ := gI hF
        refine st_irem h g1 dX11_commonDivisor_20 ?_
        refine st_istore_5 h dX11_commonDivisor_21 ?_
        refine st_iload_2 h dX11_commonDivisor_23 ?_
        refine st_istore_3 h dX11_commonDivisor_24 ?_
        refine st_iload_5 h dX11_commonDivisor_25 ?_
        refine st_istore_2 h dX11_commonDivisor_27 ?_
        refine st_iinc_4 (y := i4 + 1) h dX11_commonDivisor_28 (ii_1 _) ?_
        refine st_goto (t := 7) h dX11_commonDivisor_31 (by decide) ?_
        exact st_sub (ls_n (ls_n (ls_s (ls_s (ls_s (ls_n ls_e)))))) (ih σ (i3 - i3 / i2 * i2) i2 (i4 + 1) z hF)
set_option maxRecDepth 100000 in
set_option maxHeartbeats 4000000 in
theorem w_X11_commonDivisor {l : Launch} {G : Gv} {σ : Sto} {i0 : Int32} {i1 : Int32} {z : Int32} (hF : F_X11_commonDivisor σ i0 i1 = some z) : Con l yX11_commonDivisor cX11_commonDivisor 6 (some .int) 1 G shC νC [.int i0, .int i1] (ovC σ) (some (.int z)) (ovC σ) := by
  rw [F_X11_commonDivisor] at hF
  refine Con_enter (own := RX11) 4 (lv := [some (.int i0), some (.int i1), none, none, none, none]) mi_X11_commonDivisor.2.2.2 rfl (Nat.le_of_ble_eq_true rfl) rfl (fun h hr hin => ?_)
  refine st_iload_0 h dX11_commonDivisor_0 ?_
  refine st_istore_2 h dX11_commonDivisor_1 ?_
  refine st_iload_1 h dX11_commonDivisor_2 ?_
  refine st_istore_3 h dX11_commonDivisor_3 ?_
  refine st_ic_0 h dX11_commonDivisor_4 ?_
  refine st_istore_4 h dX11_commonDivisor_5 ?_
  exact st_sub (ls_n (ls_n (ls_s (ls_s (ls_s (ls_n ls_e)))))) (w_X11_commonDivisor_7 h hr FU σ i0 i1 0 z hF)
set_option maxRecDepth 100000 in
set_option maxHeartbeats 4000000 in
theorem w_X11_lowestTerms_27 {p : Program} {l : Launch} {e : Env} {s : State} {m : MethodId} {args : Array Value} {below : List Frame} {meth : Method} {c : Code} {G : Gv} (h : Cx p s m args meth c G cX11_lowestTerms 5 RX11) (hr : meth.sig.returnType = (some .int)) : ∀ (σ : Sto) (i4 : Int32) (e1 : Int32) (z : (Int32 × Sto)), F_X11_lowestTerms_27 σ i4 e1 = some z → AW p l e (rmD 2 0 0) s m args below meth c (MQ below (QcR G shC νC (some (.int z.1)) (ovC z.2)) args s 0 0 (gA G)) 0 0 G 5 27 [none, none, none, none, some (.int i4)] [.int e1, .ref 0] shC νC (ovC σ) := by
  intro σ i4 e1 z hF
  rw [F_X11_lowestTerms_27] at hF
  refine st_iload_4 h dX11_lowestTerms_27 ?_
  obtain ⟨g1, hF⟩ := gI hF
  refine st_idiv h g1 dX11_lowestTerms_29 ?_
  obtain ⟨x1, hx1, hF⟩ := bI hF
  refine st_cVi (vs := [.int (e1 / i4)]) (st := []) h (w_X11_answer hx1) mi_X11_answer mv_X11_answer ml_X11_125 dX11_lowestTerms_30 kC_0 rfl ⟨Nat.le_of_ble_eq_true rfl, Nat.le_of_ble_eq_true rfl⟩ (Nat.le_of_ble_eq_true rfl) rfl ?_
  cases hF
  exact st_iret h hr dX11_lowestTerms_33
set_option maxRecDepth 100000 in
set_option maxHeartbeats 4000000 in
theorem w_X11_lowestTerms {l : Launch} {G : Gv} {σ : Sto} {i1 : Int32} {i2 : Int32} {i3 : Int32} {z : (Int32 × Sto)} (hF : F_X11_lowestTerms σ i1 i2 i3 = some z) : Con l yX11_lowestTerms cX11_lowestTerms 5 (some .int) 2 G shC νC [.ref 0, .int i1, .int i2, .int i3] (ovC σ) (some (.int z.1)) (ovC z.2) := by
  rw [F_X11_lowestTerms] at hF
  refine Con_enter (own := RX11) 1 (lv := [some (.ref 0), some (.int i1), some (.int i2), some (.int i3), none]) mi_X11_lowestTerms.2.2.2 rfl (Nat.le_of_ble_eq_true rfl) rfl (fun h hr hin => ?_)
  refine st_iload_2 h dX11_lowestTerms_0 ?_
  refine st_if_ne (t := 10) h dX11_lowestTerms_1 (by decide) (fun q1 => ?_) (fun q1 => ?_)
  · have hF := qI q1 hF
    refine st_iload_1 h dX11_lowestTerms_10 ?_
    refine st_iload_2 h dX11_lowestTerms_11 ?_
    obtain ⟨x1, hx1, hF⟩ := bI hF
    refine st_cSi (vs := [.int i1, .int i2]) (st := []) h (w_X11_commonDivisor hx1) mi_X11_commonDivisor ms_X11_commonDivisor ml_X11_386 dX11_lowestTerms_12 rfl ⟨Nat.le_of_ble_eq_true rfl, Nat.le_of_ble_eq_true rfl⟩ (Nat.le_of_ble_eq_true rfl) rfl ?_
    refine st_istore_4 h dX11_lowestTerms_15 ?_
    refine st_aload_0 h dX11_lowestTerms_17 ?_
    refine st_iload_3 h dX11_lowestTerms_18 ?_
    refine st_if_ne (t := 26) h dX11_lowestTerms_19 (by decide) (fun q2 => ?_) (fun q2 => ?_)
    · have hF := qI q2 hF
      refine st_iload_2 h dX11_lowestTerms_26 ?_
      exact st_sub (ls_n (ls_n (ls_n (ls_n (ls_s ls_e))))) (w_X11_lowestTerms_27 h hr σ x1 i2 z hF)
    · have hF := pI q2 hF
      refine st_iload_1 h dX11_lowestTerms_22 ?_
      refine st_goto (t := 27) h dX11_lowestTerms_23 (by decide) ?_
      exact st_sub (ls_n (ls_n (ls_n (ls_n (ls_s ls_e))))) (w_X11_lowestTerms_27 h hr σ x1 i1 z hF)
  · have hF := pI q1 hF
    refine st_aload_0 h dX11_lowestTerms_4 ?_
    refine st_ic_5 h dX11_lowestTerms_5 ?_
    obtain ⟨x2, hx2, hF⟩ := bI hF
    refine st_cVi (vs := [.int 5]) (st := []) h (w_X11_refuse hx2) mi_X11_refuse mv_X11_refuse ml_X11_99 dX11_lowestTerms_6 kC_0 rfl ⟨Nat.le_of_ble_eq_true rfl, Nat.le_of_ble_eq_true rfl⟩ (Nat.le_of_ble_eq_true rfl) rfl ?_
    cases hF
    exact st_iret h hr dX11_lowestTerms_9
set_option maxRecDepth 100000 in
set_option maxHeartbeats 4000000 in
theorem w_X11_level_25 {p : Program} {l : Launch} {e : Env} {s : State} {m : MethodId} {args : Array Value} {below : List Frame} {meth : Method} {c : Code} {G : Gv} (h : Cx p s m args meth c G cX11_level 4 RX11) (hr : meth.sig.returnType = (some .int)) : ∀ (σ : Sto) (z : (Int32 × Sto)), F_X11_level_25 σ  = some z → AW p l e (rmD 3 0 0) s m args below meth c (MQ below (QcR G shC νC (some (.int z.1)) (ovC z.2)) args s 0 0 (gA G)) 0 0 G 4 25 [some (.ref 0), none, none, none] [] shC νC (ovC σ) := by
  intro σ z hF
  rw [F_X11_level_25] at hF
  refine st_aload_0 h dX11_level_25 ?_
  refine st_ic_1 h dX11_level_26 ?_
  obtain ⟨x1, hx1, hF⟩ := bI hF
  refine st_cVi (vs := [.int 1]) (st := []) h (w_X11_refuse hx1) mi_X11_refuse mv_X11_refuse ml_X11_99 dX11_level_27 kC_0 rfl ⟨Nat.le_of_ble_eq_true rfl, Nat.le_of_ble_eq_true rfl⟩ (Nat.le_of_ble_eq_true rfl) rfl ?_
  cases hF
  exact st_iret h hr dX11_level_30
set_option maxRecDepth 100000 in
set_option maxHeartbeats 4000000 in
theorem w_X11_level_52 {p : Program} {l : Launch} {e : Env} {s : State} {m : MethodId} {args : Array Value} {below : List Frame} {meth : Method} {c : Code} {G : Gv} (h : Cx p s m args meth c G cX11_level 4 RX11) (hr : meth.sig.returnType = (some .int)) : ∀ (σ : Sto) (i2 : Int32) (e0 : Nat) (z : (Int32 × Sto)), F_X11_level_52 σ i2 e0 = some z → AW p l e (rmD 3 0 0) s m args below meth c (MQ below (QcR G shC νC (some (.int z.1)) (ovC z.2)) args s 0 0 (gA G)) 0 0 G 4 52 [some (.ref 0), none, some (.int i2), none] [.ref e0] shC νC (ovC σ) := by
  intro σ i2 e0 z hF
  rw [F_X11_level_52] at hF
  refine st_astore_3 h dX11_level_52 ?_
  refine st_aload_0 h dX11_level_53 ?_
  refine st_aload_0 h dX11_level_54 ?_
  obtain ⟨x1, hx1, hF⟩ := bI hF
  refine gX11_11 h fl_X11_83 dX11_level_55 hx1 ?_
  refine st_aload_0 h dX11_level_58 ?_
  refine gX11_2 h fl_X11_23 dX11_level_59 (congrArg Prod.fst kC_0) ?_
  refine gX10_3 h fl_X11_173 dX11_level_62 (congrArg Prod.fst kC_3) ?_
  refine st_aload_3 h dX11_level_65 ?_
  obtain ⟨g1, hF⟩ := gI hF
  obtain ⟨x2, hx2, hF⟩ := bI hF
  refine st_cVi (vs := [.ref (3 + 2), .ref e0]) (st := [.ref 0]) h (w_X9_costing hx2) mi_X9_costing mv_X9_costing ml_X11_149 dX11_level_66 (shC_e g1) rfl ⟨Nat.le_of_ble_eq_true rfl, Nat.le_of_ble_eq_true rfl⟩ (Nat.le_of_ble_eq_true rfl) rfl ?_
  refine st_aload_0 h dX11_level_69 ?_
  obtain ⟨x3, hx3, hF⟩ := bI hF
  refine gX11_11 h fl_X11_83 dX11_level_70 hx3 ?_
  refine st_aload_0 h dX11_level_73 ?_
  refine gX11_2 h fl_X11_23 dX11_level_74 (congrArg Prod.fst kC_0) ?_
  refine gX10_2 h fl_X11_146 dX11_level_77 (congrArg Prod.fst kC_3) ?_
  refine st_aload_3 h dX11_level_80 ?_
  obtain ⟨g2, hF⟩ := gI hF
  obtain ⟨x4, hx4, hF⟩ := bI hF
  refine st_cVi (vs := [.ref (3 + 1), .ref e0]) (st := [.int x2, .ref 0]) h (w_X9_costing hx4) mi_X9_costing mv_X9_costing ml_X11_149 dX11_level_81 (shC_e g2) rfl ⟨Nat.le_of_ble_eq_true rfl, Nat.le_of_ble_eq_true rfl⟩ (Nat.le_of_ble_eq_true rfl) rfl ?_
  refine st_iload_2 h dX11_level_84 ?_
  obtain ⟨x5, hx5, hF⟩ := bI hF
  refine st_cVi (vs := [.int x2, .int x4, .int i2]) (st := []) h (w_X11_lowestTerms hx5) mi_X11_lowestTerms mv_X11_lowestTerms ml_X11_291 dX11_level_85 kC_0 rfl ⟨Nat.le_of_ble_eq_true rfl, Nat.le_of_ble_eq_true rfl⟩ (Nat.le_of_ble_eq_true rfl) rfl ?_
  cases hF
  exact st_iret h hr dX11_level_88
set_option maxRecDepth 100000 in
set_option maxHeartbeats 4000000 in
theorem w_X11_level {l : Launch} {G : Gv} {σ : Sto} {i1 : Int32} {i2 : Int32} {z : (Int32 × Sto)} (hF : F_X11_level σ i1 i2 = some z) : Con l yX11_level cX11_level 4 (some .int) 3 G shC νC [.ref 0, .int i1, .int i2] (ovC σ) (some (.int z.1)) (ovC z.2) := by
  rw [F_X11_level] at hF
  refine Con_enter (own := RX11) 1 (lv := [some (.ref 0), some (.int i1), some (.int i2), none]) mi_X11_level.2.2.2 rfl (Nat.le_of_ble_eq_true rfl) rfl (fun h hr hin => ?_)
  refine st_aload_0 h dX11_level_0 ?_
  refine gX11_13 h fl_X11_131 dX11_level_1 (congrArg Prod.fst kC_0) ?_
  refine st_if_eq (t := 25) h dX11_level_4 (by decide) (fun q1 => ?_) (fun q1 => ?_)
  · have hF := pI q1 hF
    exact st_sub (ls_s (ls_n (ls_n (ls_n ls_e)))) (w_X11_level_25 h hr σ  z hF)
  · have hF := qI q1 hF
    refine st_iload_1 h dX11_level_7 ?_
    refine st_if_lt (t := 25) h dX11_level_8 (by decide) (fun q2 => ?_) (fun q2 => ?_)
    · have hF := pI q2 hF
      exact st_sub (ls_s (ls_n (ls_n (ls_n ls_e)))) (w_X11_level_25 h hr σ  z hF)
    · have hF := qI q2 hF
      refine st_iload_1 h dX11_level_11 ?_
      refine st_ic_1 h dX11_level_12 ?_
      refine st_icmp_gt (t := 25) h dX11_level_13 (by decide) (fun q3 => ?_) (fun q3 => ?_)
      · have hF := pI q3 hF
        exact st_sub (ls_s (ls_n (ls_n (ls_n ls_e)))) (w_X11_level_25 h hr σ  z hF)
      · have hF := qI q3 hF
        refine st_iload_2 h dX11_level_16 ?_
        refine st_if_lt (t := 25) h dX11_level_17 (by decide) (fun q4 => ?_) (fun q4 => ?_)
        · have hF := pI q4 hF
          exact st_sub (ls_s (ls_n (ls_n (ls_n ls_e)))) (w_X11_level_25 h hr σ  z hF)
        · have hF := qI q4 hF
          refine st_iload_2 h dX11_level_20 ?_
          refine st_ic_1 h dX11_level_21 ?_
          refine st_icmp_le (t := 31) h dX11_level_22 (by decide) (fun q5 => ?_) (fun q5 => ?_)
          · have hF := pI q5 hF
            refine st_iload_1 h dX11_level_31 ?_
            refine st_if_ne (t := 45) h dX11_level_32 (by decide) (fun q6 => ?_) (fun q6 => ?_)
            · have hF := qI q6 hF
              refine st_aload_0 h dX11_level_45 ?_
              refine gX11_2 h fl_X11_23 dX11_level_46 (congrArg Prod.fst kC_0) ?_
              refine gX10_3 h fl_X11_173 dX11_level_49 (congrArg Prod.fst kC_3) ?_
              exact st_sub (ls_s (ls_n (ls_s (ls_n ls_e)))) (w_X11_level_52 h hr σ i2 (3 + 2) z hF)
            · have hF := pI q6 hF
              refine st_aload_0 h dX11_level_35 ?_
              refine gX11_2 h fl_X11_23 dX11_level_36 (congrArg Prod.fst kC_0) ?_
              refine gX10_2 h fl_X11_146 dX11_level_39 (congrArg Prod.fst kC_3) ?_
              refine st_goto (t := 52) h dX11_level_42 (by decide) ?_
              exact st_sub (ls_s (ls_n (ls_s (ls_n ls_e)))) (w_X11_level_52 h hr σ i2 (3 + 1) z hF)
          · have hF := qI q5 hF
            exact st_sub (ls_s (ls_n (ls_n (ls_n ls_e)))) (w_X11_level_25 h hr σ  z hF)
set_option maxRecDepth 100000 in
set_option maxHeartbeats 4000000 in
theorem w_X1_profitThen_47 {p : Program} {l : Launch} {e : Env} {s : State} {m : MethodId} {args : Array Value} {below : List Frame} {meth : Method} {c : Code} {G : Gv} (h : Cx p s m args meth c G cX1_profitThen 9 RX1) (hr : meth.sig.returnType = (some .int)) {k6 : Sto → Nat → Nat → Int32 → Int32 → Int32 → Int32 → Int32 → Option Int32} (H6 : ∀ (σ : Sto) (a1 : Nat) (a2 : Nat) (i3 : Int32) (i4 : Int32) (i5 : Int32) (i6 : Int32) (i7 : Int32) (z : Int32), k6 σ a1 a2 i3 i4 i5 i6 i7 = some z → AW p l e (rmD 1 0 0) s m args below meth c (MQ below (QcR G shC νC (some (.int z)) (ovC σ)) args s 0 0 (gA G)) 0 0 G 9 6 [none, some (.ref a1), some (.ref a2), some (.int i3), some (.int i4), some (.int i5), some (.int i6), some (.int i7), none] [] shC νC (ovC σ)) : ∀ (σ : Sto) (a1 : Nat) (a2 : Nat) (i3 : Int32) (i4 : Int32) (i5 : Int32) (i6 : Int32) (i7 : Int32) (e0 : Int32) (e1 : Int32) (z : Int32), F_X1_profitThen_47 k6 σ a1 a2 i3 i4 i5 i6 i7 e0 e1 = some z → AW p l e (rmD 1 0 0) s m args below meth c (MQ below (QcR G shC νC (some (.int z)) (ovC σ)) args s 0 0 (gA G)) 0 0 G 9 47 [none, some (.ref a1), some (.ref a2), some (.int i3), some (.int i4), some (.int i5), some (.int i6), some (.int i7), none] [.int e1, .int e0] shC νC (ovC σ) := by
  intro σ a1 a2 i3 i4 i5 i6 i7 e0 e1 z hF
  rw [F_X1_profitThen_47] at hF
  refine st_isub h dX1_profitThen_47 ?_
  refine st_istore_8 h dX1_profitThen_48 ?_
  refine st_iload_6 h dX1_profitThen_50 ?_
  refine st_aload_1 h dX1_profitThen_52 ?_
  obtain ⟨g1, hF⟩ := gI hF
  refine gX9_7 h fl_X1_46 dX1_profitThen_53 g1 ?_
  refine st_iload_7 h dX1_profitThen_56 ?_
  refine st_bipush (v := 21) h dX1_profitThen_58 (by decide) ?_
  refine st_imul h dX1_profitThen_60 ?_
  refine st_iload_8 h dX1_profitThen_61 ?_
  refine st_iadd h dX1_profitThen_63 ?_
  obtain ⟨g2, hF⟩ := gI hF
  refine iaC h dX1_profitThen_64 (sk_9_7 g1) g2 ?_
  refine st_iadd h dX1_profitThen_65 ?_
  obtain ⟨v1, hv1, hF⟩ := swI hF
  refine st_nmi hv1 ?_
  refine st_istore_6 h dX1_profitThen_66 ?_
  refine st_iinc_7 (y := i7 + 1) h dX1_profitThen_68 (ii_1 _) ?_
  refine st_goto (t := 6) h dX1_profitThen_71 (by decide) ?_
  exact st_sub (ls_n (ls_s (ls_s (ls_s (ls_s (ls_s (ls_s (ls_s (ls_n ls_e))))))))) (H6 σ a1 a2 i3 i4 i5 v1 (i7 + 1) z hF)
set_option maxRecDepth 100000 in
set_option maxHeartbeats 4000000 in
theorem w_X1_profitThen_33 {p : Program} {l : Launch} {e : Env} {s : State} {m : MethodId} {args : Array Value} {below : List Frame} {meth : Method} {c : Code} {G : Gv} (h : Cx p s m args meth c G cX1_profitThen 9 RX1) (hr : meth.sig.returnType = (some .int)) {k6 : Sto → Nat → Nat → Int32 → Int32 → Int32 → Int32 → Int32 → Option Int32} (H6 : ∀ (σ : Sto) (a1 : Nat) (a2 : Nat) (i3 : Int32) (i4 : Int32) (i5 : Int32) (i6 : Int32) (i7 : Int32) (z : Int32), k6 σ a1 a2 i3 i4 i5 i6 i7 = some z → AW p l e (rmD 1 0 0) s m args below meth c (MQ below (QcR G shC νC (some (.int z)) (ovC σ)) args s 0 0 (gA G)) 0 0 G 9 6 [none, some (.ref a1), some (.ref a2), some (.int i3), some (.int i4), some (.int i5), some (.int i6), some (.int i7), none] [] shC νC (ovC σ)) : ∀ (σ : Sto) (a1 : Nat) (a2 : Nat) (i3 : Int32) (i4 : Int32) (i5 : Int32) (i6 : Int32) (i7 : Int32) (e0 : Int32) (e1 : Int32) (z : Int32), F_X1_profitThen_33 k6 σ a1 a2 i3 i4 i5 i6 i7 e0 e1 = some z → AW p l e (rmD 1 0 0) s m args below meth c (MQ below (QcR G shC νC (some (.int z)) (ovC σ)) args s 0 0 (gA G)) 0 0 G 9 33 [none, some (.ref a1), some (.ref a2), some (.int i3), some (.int i4), some (.int i5), some (.int i6), some (.int i7), none] [.int e1, .int e0] shC νC (ovC σ) := by
  intro σ a1 a2 i3 i4 i5 i6 i7 e0 e1 z hF
  rw [F_X1_profitThen_33] at hF
  refine st_iadd h dX1_profitThen_33 ?_
  refine st_iload_7 h dX1_profitThen_34 ?_
  refine st_iload_4 h dX1_profitThen_36 ?_
  refine st_icmp_ne (t := 46) h dX1_profitThen_38 (by decide) (fun q1 => ?_) (fun q1 => ?_)
  · have hF := qI q1 hF
    refine st_ic_0 h dX1_profitThen_46 ?_
    exact st_sub (ls_n (ls_s (ls_s (ls_s (ls_s (ls_s (ls_s (ls_s (ls_n ls_e))))))))) (w_X1_profitThen_47 h hr H6 σ a1 a2 i3 i4 i5 i6 i7 (e0 + e1) 0 z hF)
  · have hF := pI q1 hF
    refine st_iload_5 h dX1_profitThen_41 ?_
    refine st_goto (t := 47) h dX1_profitThen_43 (by decide) ?_
    exact st_sub (ls_n (ls_s (ls_s (ls_s (ls_s (ls_s (ls_s (ls_s (ls_n ls_e))))))))) (w_X1_profitThen_47 h hr H6 σ a1 a2 i3 i4 i5 i6 i7 (e0 + e1) i5 z hF)
set_option maxRecDepth 100000 in
set_option maxHeartbeats 4000000 in
theorem w_X1_profitThen_6 {p : Program} {l : Launch} {e : Env} {s : State} {m : MethodId} {args : Array Value} {below : List Frame} {meth : Method} {c : Code} {G : Gv} (h : Cx p s m args meth c G cX1_profitThen 9 RX1) (hr : meth.sig.returnType = (some .int)) : ∀ (n : Nat) (σ : Sto) (a1 : Nat) (a2 : Nat) (i3 : Int32) (i4 : Int32) (i5 : Int32) (i6 : Int32) (i7 : Int32) (z : Int32), F_X1_profitThen_6 n σ a1 a2 i3 i4 i5 i6 i7 = some z → AW p l e (rmD 1 0 0) s m args below meth c (MQ below (QcR G shC νC (some (.int z)) (ovC σ)) args s 0 0 (gA G)) 0 0 G 9 6 [none, some (.ref a1), some (.ref a2), some (.int i3), some (.int i4), some (.int i5), some (.int i6), some (.int i7), none] [] shC νC (ovC σ) := by
  intro n
  induction n with
  | zero => intro σ a1 a2 i3 i4 i5 i6 i7 z hF; cases hF
  | succ n ih =>
    intro σ a1 a2 i3 i4 i5 i6 i7 z hF
    rw [F_X1_profitThen_6] at hF
    refine st_iload_7 h dX1_profitThen_6 ?_
    refine st_aload_1 h dX1_profitThen_8 ?_
    obtain ⟨g1, hF⟩ := gI hF
    refine gX9_0 h fl_X1_25 dX1_profitThen_9 g1 ?_
    refine st_icmp_ge (t := 74) h dX1_profitThen_12 (by decide) (fun q1 => ?_) (fun q1 => ?_)
    · have hF := pI q1 hF
      refine st_iload_6 h dX1_profitThen_74 ?_
      cases hF
      exact st_iret h hr dX1_profitThen_76
    · have hF := qI q1 hF
      refine st_aload_2 h dX1_profitThen_15 ?_
      obtain ⟨g2, hF⟩ := gI hF
      refine gX10_3 h fl_X1_31 dX1_profitThen_16 g2 ?_
      refine st_iload_7 h dX1_profitThen_19 ?_
      obtain ⟨g3, hF⟩ := gI hF
      refine iaC h dX1_profitThen_21 (sk_10_3 g2) g3 ?_
      refine st_iload_7 h dX1_profitThen_22 ?_
      refine st_iload_3 h dX1_profitThen_24 ?_
      refine st_icmp_ne (t := 32) h dX1_profitThen_25 (by decide) (fun q2 => ?_) (fun q2 => ?_)
      · have hF := qI q2 hF
        refine st_ic_0 h dX1_profitThen_32 ?_
        exact st_sub (ls_n (ls_s (ls_s (ls_s (ls_s (ls_s (ls_s (ls_s (ls_n ls_e))))))))) (w_X1_profitThen_33 h hr ih σ a1 a2 i3 i4 i5 i6 i7 (σ.1 (a2 + 2) (ix i7)) 0 z hF)
      · have hF := pI q2 hF
        refine st_ic_1 h dX1_profitThen_28 ?_
        refine st_goto (t := 33) h dX1_profitThen_29 (by decide) ?_
        exact st_sub (ls_n (ls_s (ls_s (ls_s (ls_s (ls_s (ls_s (ls_s (ls_n ls_e))))))))) (w_X1_profitThen_33 h hr ih σ a1 a2 i3 i4 i5 i6 i7 (σ.1 (a2 + 2) (ix i7)) 1 z hF)
set_option maxRecDepth 100000 in
set_option maxHeartbeats 4000000 in
theorem w_X1_profitThen {l : Launch} {G : Gv} {σ : Sto} {a1 : Nat} {a2 : Nat} {i3 : Int32} {i4 : Int32} {i5 : Int32} {z : Int32} (hF : F_X1_profitThen σ a1 a2 i3 i4 i5 = some z) : Con l yX1_profitThen cX1_profitThen 9 (some .int) 1 G shC νC [.ref 99, .ref a1, .ref a2, .int i3, .int i4, .int i5] (ovC σ) (some (.int z)) (ovC σ) := by
  rw [F_X1_profitThen] at hF
  refine Con_enter (own := RX1) 3 (lv := [some (.ref 99), some (.ref a1), some (.ref a2), some (.int i3), some (.int i4), some (.int i5), none, none, none]) mi_X1_profitThen.2.2.2 rfl (Nat.le_of_ble_eq_true rfl) rfl (fun h hr hin => ?_)
  refine st_ic_0 h dX1_profitThen_0 ?_
  refine st_istore_6 h dX1_profitThen_1 ?_
  refine st_ic_0 h dX1_profitThen_3 ?_
  refine st_istore_7 h dX1_profitThen_4 ?_
  exact st_sub (ls_n (ls_s (ls_s (ls_s (ls_s (ls_s (ls_s (ls_s (ls_n ls_e))))))))) (w_X1_profitThen_6 h hr FU σ a1 a2 i3 i4 i5 0 0 z hF)
set_option maxRecDepth 100000 in
set_option maxHeartbeats 4000000 in
theorem w_X1_offer_66 {p : Program} {l : Launch} {e : Env} {s : State} {m : MethodId} {args : Array Value} {below : List Frame} {meth : Method} {c : Code} {G : Gv} (h : Cx p s m args meth c G cX1_offer 9 RX1) (hr : meth.sig.returnType = none) : ∀ (σ : Sto) (i3 : Int32) (i4 : Int32) (i7 : Int32) (i8 : Int32) (z : Sto), F_X1_offer_66 σ i3 i4 i7 i8 = some z → AW p l e (rmD 2 0 0) s m args below meth c (MQ below (QcR G shC νC none (ovC z)) args s 0 0 (gA G)) 0 0 G 9 66 [some (.ref 99), none, none, some (.int i3), some (.int i4), none, none, some (.int i7), some (.int i8)] [] shC νC (ovC σ) := by
  intro σ i3 i4 i7 i8 z hF
  rw [F_X1_offer_66] at hF
  refine st_aload_0 h dX1_offer_66 ?_
  refine st_ic_1 h dX1_offer_67 ?_
  obtain ⟨s1, hs1, hF⟩ := swI hF
  refine pX1_1 h fl_X1_15 dX1_offer_68 (congrArg Prod.fst kC_99) (Or.inr rfl) hs1 ?_
  refine st_aload_0 h dX1_offer_71 ?_
  refine gX1_0 h fl_X1_9 dX1_offer_72 (congrArg Prod.fst kC_99) ?_
  refine st_ic_0 h dX1_offer_75 ?_
  refine st_iload_8 h dX1_offer_76 ?_
  obtain ⟨s2, hs2, hF⟩ := swI hF
  refine isC h dX1_offer_78 kC_100 (by decide) hs2 ?_
  refine st_aload_0 h dX1_offer_79 ?_
  refine gX1_0 h fl_X1_9 dX1_offer_80 (congrArg Prod.fst kC_99) ?_
  refine st_ic_1 h dX1_offer_83 ?_
  refine st_iload_3 h dX1_offer_84 ?_
  obtain ⟨s3, hs3, hF⟩ := swI hF
  refine isC h dX1_offer_85 kC_100 (by decide) hs3 ?_
  refine st_aload_0 h dX1_offer_86 ?_
  refine gX1_0 h fl_X1_9 dX1_offer_87 (congrArg Prod.fst kC_99) ?_
  refine st_ic_2 h dX1_offer_90 ?_
  refine st_iload_4 h dX1_offer_91 ?_
  obtain ⟨s4, hs4, hF⟩ := swI hF
  refine isC h dX1_offer_93 kC_100 (by decide) hs4 ?_
  refine st_aload_0 h dX1_offer_94 ?_
  refine gX1_0 h fl_X1_9 dX1_offer_95 (congrArg Prod.fst kC_99) ?_
  refine st_ic_3 h dX1_offer_98 ?_
  refine st_iload_7 h dX1_offer_99 ?_
  obtain ⟨s5, hs5, hF⟩ := swI hF
  refine isC h dX1_offer_101 kC_100 (by decide) hs5 ?_
  cases hF
  exact st_vret h hr dX1_offer_102
set_option maxRecDepth 100000 in
set_option maxHeartbeats 4000000 in
theorem w_X1_offer_12 {p : Program} {l : Launch} {e : Env} {s : State} {m : MethodId} {args : Array Value} {below : List Frame} {meth : Method} {c : Code} {G : Gv} (h : Cx p s m args meth c G cX1_offer 9 RX1) (hr : meth.sig.returnType = none) : ∀ (n : Nat) (σ : Sto) (a1 : Nat) (a2 : Nat) (i3 : Int32) (i4 : Int32) (i5 : Int32) (i6 : Int32) (i7 : Int32) (z : Sto), F_X1_offer_12 n σ a1 a2 i3 i4 i5 i6 i7 = some z → AW p l e (rmD 2 0 0) s m args below meth c (MQ below (QcR G shC νC none (ovC z)) args s 0 0 (gA G)) 0 0 G 9 12 [some (.ref 99), some (.ref a1), some (.ref a2), some (.int i3), some (.int i4), some (.int i5), some (.int i6), some (.int i7), none] [] shC νC (ovC σ) := by
  intro n
  induction n with
  | zero => intro σ a1 a2 i3 i4 i5 i6 i7 z hF; cases hF
  | succ n ih =>
    intro σ a1 a2 i3 i4 i5 i6 i7 z hF
    rw [F_X1_offer_12] at hF
    refine st_iload_7 h dX1_offer_12 ?_
    refine st_aload_2 h dX1_offer_14 ?_
    obtain ⟨g1, hF⟩ := gI hF
    refine gX10_3 h fl_X1_31 dX1_offer_15 g1 ?_
    refine st_iload_4 h dX1_offer_18 ?_
    obtain ⟨g2, hF⟩ := gI hF
    refine iaC h dX1_offer_20 (sk_10_3 g1) g2 ?_
    refine st_icmp_gt (t := 109) h dX1_offer_21 (by decide) (fun q1 => ?_) (fun q1 => ?_)
    · have hF := pI q1 hF
      cases hF
      exact st_vret h hr dX1_offer_109
    · have hF := qI q1 hF
      refine st_iload_5 h dX1_offer_24 ?_
      refine st_iload_7 h dX1_offer_26 ?_
      refine st_iload_6 h dX1_offer_28 ?_
      refine st_imul h dX1_offer_30 ?_
      refine st_isub h dX1_offer_31 ?_
      refine st_if_gt (t := 103) h dX1_offer_32 (by decide) (fun q2 => ?_) (fun q2 => ?_)
      · have hF := pI q2 hF
        refine st_iinc_7 (y := i7 + 1) h dX1_offer_103 (ii_1 _) ?_
        refine st_goto (t := 12) h dX1_offer_106 (by decide) ?_
        exact st_sub (ls_s (ls_s (ls_s (ls_s (ls_s (ls_s (ls_s (ls_s (ls_n ls_e))))))))) (ih σ a1 a2 i3 i4 i5 i6 (i7 + 1) z hF)
      · have hF := qI q2 hF
        refine st_aload_0 h dX1_offer_35 ?_
        refine st_aload_1 h dX1_offer_36 ?_
        refine st_aload_2 h dX1_offer_37 ?_
        refine st_iload_3 h dX1_offer_38 ?_
        refine st_iload_4 h dX1_offer_39 ?_
        refine st_iload_7 h dX1_offer_41 ?_
        obtain ⟨x1, hx1, hF⟩ := bI hF
        refine st_cVi (vs := [.ref a1, .ref a2, .int i3, .int i4, .int i7]) (st := []) h (w_X1_profitThen hx1) mi_X1_profitThen mv_X1_profitThen ml_X1_42 dX1_offer_43 kC_99 rfl ⟨Nat.le_of_ble_eq_true rfl, Nat.le_of_ble_eq_true rfl⟩ (Nat.le_of_ble_eq_true rfl) rfl ?_
        refine st_istore_8 h dX1_offer_46 ?_
        refine st_aload_0 h dX1_offer_48 ?_
        refine gX1_1 h fl_X1_15 dX1_offer_49 (congrArg Prod.fst kC_99) ?_
        refine st_if_eq (t := 66) h dX1_offer_52 (by decide) (fun q3 => ?_) (fun q3 => ?_)
        · have hF := pI q3 hF
          exact st_sub (ls_s (ls_n (ls_n (ls_s (ls_s (ls_n (ls_n (ls_s (ls_s ls_e))))))))) (w_X1_offer_66 h hr σ i3 i4 i7 x1 z hF)
        · have hF := qI q3 hF
          refine st_iload_8 h dX1_offer_55 ?_
          refine st_aload_0 h dX1_offer_57 ?_
          refine gX1_0 h fl_X1_9 dX1_offer_58 (congrArg Prod.fst kC_99) ?_
          refine st_ic_0 h dX1_offer_61 ?_
          refine iaC h dX1_offer_62 kC_100 (by decide) ?_
          refine st_icmp_le (t := 102) h dX1_offer_63 (by decide) (fun q4 => ?_) (fun q4 => ?_)
          · have hF := pI q4 hF
            cases hF
            exact st_vret h hr dX1_offer_102
          · have hF := qI q4 hF
            exact st_sub (ls_s (ls_n (ls_n (ls_s (ls_s (ls_n (ls_n (ls_s (ls_s ls_e))))))))) (w_X1_offer_66 h hr σ i3 i4 i7 x1 z hF)
set_option maxRecDepth 100000 in
set_option maxHeartbeats 4000000 in
theorem w_X1_offer {l : Launch} {G : Gv} {σ : Sto} {a1 : Nat} {a2 : Nat} {i3 : Int32} {i4 : Int32} {i5 : Int32} {z : Sto} (hF : F_X1_offer σ a1 a2 i3 i4 i5 = some z) : Con l yX1_offer cX1_offer 9 none 2 G shC νC [.ref 99, .ref a1, .ref a2, .int i3, .int i4, .int i5] (ovC σ) none (ovC z) := by
  rw [F_X1_offer] at hF
  refine Con_enter (own := RX1) 3 (lv := [some (.ref 99), some (.ref a1), some (.ref a2), some (.int i3), some (.int i4), some (.int i5), none, none, none]) mi_X1_offer.2.2.2 rfl (Nat.le_of_ble_eq_true rfl) rfl (fun h hr hin => ?_)
  refine st_aload_2 h dX1_offer_0 ?_
  refine st_aload_1 h dX1_offer_1 ?_
  refine st_iload_4 h dX1_offer_2 ?_
  obtain ⟨g1, hF⟩ := gI hF
  obtain ⟨x1, hx1, hF⟩ := bI hF
  refine st_cVi (vs := [.ref a1, .int i4]) (st := []) h (w_X10_weight hx1) mi_X10_weight mv_X10_weight ml_X1_34 dX1_offer_4 (shC_e g1) rfl ⟨Nat.le_of_ble_eq_true rfl, Nat.le_of_ble_eq_true rfl⟩ (Nat.le_of_ble_eq_true rfl) rfl ?_
  refine st_istore_6 h dX1_offer_7 ?_
  refine st_ic_0 h dX1_offer_9 ?_
  refine st_istore_7 h dX1_offer_10 ?_
  exact st_sub (ls_s (ls_s (ls_s (ls_s (ls_s (ls_s (ls_s (ls_s (ls_n ls_e))))))))) (w_X1_offer_12 h hr FU σ a1 a2 i3 i4 i5 x1 0 z hF)
set_option maxRecDepth 100000 in
set_option maxHeartbeats 4000000 in
theorem w_X1_seek_27 {p : Program} {l : Launch} {e : Env} {s : State} {m : MethodId} {args : Array Value} {below : List Frame} {meth : Method} {c : Code} {G : Gv} (h : Cx p s m args meth c G cX1_seek 6 RX1) (hr : meth.sig.returnType = (some .boolean)) {k15 : Sto → Nat → Nat → Int32 → Int32 → Option (Int32 × Sto)} (H15 : ∀ (σ : Sto) (a1 : Nat) (a2 : Nat) (i3 : Int32) (i4 : Int32) (z : (Int32 × Sto)), k15 σ a1 a2 i3 i4 = some z → AW p l e (rmD 6 0 0) s m args below meth c (MQ below (QcR G shC νC (some (.int z.1)) (ovC z.2)) args s 0 0 (gA G)) 0 0 G 6 15 [some (.ref 99), some (.ref a1), some (.ref a2), some (.int i3), some (.int i4), none] [] shC νC (ovC σ)) : ∀ (n : Nat) (σ : Sto) (a1 : Nat) (a2 : Nat) (i3 : Int32) (i4 : Int32) (i5 : Int32) (z : (Int32 × Sto)), F_X1_seek_27 k15 n σ a1 a2 i3 i4 i5 = some z → AW p l e (rmD 6 0 0) s m args below meth c (MQ below (QcR G shC νC (some (.int z.1)) (ovC z.2)) args s 0 0 (gA G)) 0 0 G 6 27 [some (.ref 99), some (.ref a1), some (.ref a2), some (.int i3), some (.int i4), some (.int i5)] [] shC νC (ovC σ) := by
  intro n
  induction n with
  | zero => intro σ a1 a2 i3 i4 i5 z hF; cases hF
  | succ n ih =>
    intro σ a1 a2 i3 i4 i5 z hF
    rw [F_X1_seek_27] at hF
    refine st_iload_5 h dX1_seek_27 ?_
    refine st_aload_1 h dX1_seek_29 ?_
    obtain ⟨g1, hF⟩ := gI hF
    refine gX9_0 h fl_X1_25 dX1_seek_30 g1 ?_
    refine st_icmp_ge (t := 80) h dX1_seek_33 (by decide) (fun q1 => ?_) (fun q1 => ?_)
    · have hF := pI q1 hF
      refine st_iinc_4 (y := i4 + 1) h dX1_seek_80 (ii_1 _) ?_
      refine st_goto (t := 15) h dX1_seek_83 (by decide) ?_
      exact st_sub (ls_s (ls_s (ls_s (ls_s (ls_s (ls_n ls_e)))))) (H15 σ a1 a2 i3 (i4 + 1) z hF)
    · have hF := qI q1 hF
      refine st_iload_4 h dX1_seek_36 ?_
      refine st_iload_5 h dX1_seek_38 ?_
      refine st_icmp_eq (t := 74) h dX1_seek_40 (by decide) (fun q2 => ?_) (fun q2 => ?_)
      · have hF := pI q2 hF
        refine st_iinc_5 (y := i5 + 1) h dX1_seek_74 (ii_1 _) ?_
        refine st_goto (t := 27) h dX1_seek_77 (by decide) ?_
        exact st_sub (ls_s (ls_s (ls_s (ls_s (ls_s (ls_s ls_e)))))) (ih σ a1 a2 i3 i4 (i5 + 1) z hF)
      · have hF := qI q2 hF
        refine st_aload_2 h dX1_seek_43 ?_
        obtain ⟨g2, hF⟩ := gI hF
        refine gX10_3 h fl_X1_31 dX1_seek_44 g2 ?_
        refine st_iload_4 h dX1_seek_47 ?_
        obtain ⟨g3, hF⟩ := gI hF
        refine iaC h dX1_seek_49 (sk_10_3 g2) g3 ?_
        refine st_bipush (v := 20) h dX1_seek_50 (by decide) ?_
        refine st_icmp_ge (t := 74) h dX1_seek_52 (by decide) (fun q3 => ?_) (fun q3 => ?_)
        · have hF := pI q3 hF
          refine st_iinc_5 (y := i5 + 1) h dX1_seek_74 (ii_1 _) ?_
          refine st_goto (t := 27) h dX1_seek_77 (by decide) ?_
          exact st_sub (ls_s (ls_s (ls_s (ls_s (ls_s (ls_s ls_e)))))) (ih σ a1 a2 i3 i4 (i5 + 1) z hF)
        · have hF := qI q3 hF
          refine st_aload_0 h dX1_seek_55 ?_
          refine st_aload_1 h dX1_seek_56 ?_
          refine st_aload_2 h dX1_seek_57 ?_
          refine st_iload_4 h dX1_seek_58 ?_
          refine st_iload_5 h dX1_seek_60 ?_
          refine st_iload_3 h dX1_seek_62 ?_
          refine st_aload_2 h dX1_seek_63 ?_
          refine st_aload_1 h dX1_seek_64 ?_
          refine st_iload_4 h dX1_seek_65 ?_
          obtain ⟨x1, hx1, hF⟩ := bI hF
          refine st_cVi (vs := [.ref a1, .int i4]) (st := [.int i3, .int i5, .int i4, .ref a2, .ref a1, .ref 99]) h (w_X10_weight hx1) mi_X10_weight mv_X10_weight ml_X1_34 dX1_seek_67 (shC_e g2) rfl ⟨Nat.le_of_ble_eq_true rfl, Nat.le_of_ble_eq_true rfl⟩ (Nat.le_of_ble_eq_true rfl) rfl ?_
          refine st_iadd h dX1_seek_70 ?_
          obtain ⟨x2, hx2, hF⟩ := bI hF
          refine st_cVv (vs := [.ref a1, .ref a2, .int i4, .int i5, .int (i3 + x1)]) (st := []) h (w_X1_offer hx2) mi_X1_offer mv_X1_offer ml_X1_38 dX1_seek_71 kC_99 rfl ⟨Nat.le_of_ble_eq_true rfl, Nat.le_of_ble_eq_true rfl⟩ (Nat.le_of_ble_eq_true rfl) rfl ?_
          refine st_iinc_5 (y := i5 + 1) h dX1_seek_74 (ii_1 _) ?_
          refine st_goto (t := 27) h dX1_seek_77 (by decide) ?_
          exact st_sub (ls_s (ls_s (ls_s (ls_s (ls_s (ls_s ls_e)))))) (ih x2 a1 a2 i3 i4 (i5 + 1) z hF)
set_option maxRecDepth 100000 in
set_option maxHeartbeats 4000000 in
theorem w_X1_seek_15 {p : Program} {l : Launch} {e : Env} {s : State} {m : MethodId} {args : Array Value} {below : List Frame} {meth : Method} {c : Code} {G : Gv} (h : Cx p s m args meth c G cX1_seek 6 RX1) (hr : meth.sig.returnType = (some .boolean)) : ∀ (n : Nat) (σ : Sto) (a1 : Nat) (a2 : Nat) (i3 : Int32) (i4 : Int32) (z : (Int32 × Sto)), F_X1_seek_15 n σ a1 a2 i3 i4 = some z → AW p l e (rmD 6 0 0) s m args below meth c (MQ below (QcR G shC νC (some (.int z.1)) (ovC z.2)) args s 0 0 (gA G)) 0 0 G 6 15 [some (.ref 99), some (.ref a1), some (.ref a2), some (.int i3), some (.int i4), none] [] shC νC (ovC σ) := by
  intro n
  induction n with
  | zero => intro σ a1 a2 i3 i4 z hF; cases hF
  | succ n ih =>
    intro σ a1 a2 i3 i4 z hF
    rw [F_X1_seek_15] at hF
    refine st_iload_4 h dX1_seek_15 ?_
    refine st_aload_1 h dX1_seek_17 ?_
    obtain ⟨g1, hF⟩ := gI hF
    refine gX9_0 h fl_X1_25 dX1_seek_18 g1 ?_
    refine st_icmp_ge (t := 86) h dX1_seek_21 (by decide) (fun q1 => ?_) (fun q1 => ?_)
    · have hF := pI q1 hF
      refine st_aload_0 h dX1_seek_86 ?_
      refine gX1_1 h fl_X1_15 dX1_seek_87 (congrArg Prod.fst kC_99) ?_
      obtain ⟨g2, hF⟩ := gI hF
      cases hF
      exact st_zret h hr g2 dX1_seek_90
    · have hF := qI q1 hF
      refine st_ic_0 h dX1_seek_24 ?_
      refine st_istore_5 h dX1_seek_25 ?_
      exact st_sub (ls_s (ls_s (ls_s (ls_s (ls_s (ls_s ls_e)))))) (w_X1_seek_27 h hr ih FU σ a1 a2 i3 i4 0 z hF)
set_option maxRecDepth 100000 in
set_option maxHeartbeats 4000000 in
theorem w_X1_seek {l : Launch} {G : Gv} {σ : Sto} {a1 : Nat} {a2 : Nat} {z : (Int32 × Sto)} (hF : F_X1_seek σ a1 a2 = some z) : Con l yX1_seek cX1_seek 6 (some .boolean) 6 G shC νC [.ref 99, .ref a1, .ref a2] (ovC σ) (some (.int z.1)) (ovC z.2) := by
  rw [F_X1_seek] at hF
  refine Con_enter (own := RX1) 3 (lv := [some (.ref 99), some (.ref a1), some (.ref a2), none, none, none]) mi_X1_seek.2.2.2 rfl (Nat.le_of_ble_eq_true rfl) rfl (fun h hr hin => ?_)
  refine st_aload_0 h dX1_seek_0 ?_
  refine st_ic_0 h dX1_seek_1 ?_
  obtain ⟨s1, hs1, hF⟩ := swI hF
  refine pX1_1 h fl_X1_15 dX1_seek_2 (congrArg Prod.fst kC_99) (Or.inl rfl) hs1 ?_
  refine st_aload_2 h dX1_seek_5 ?_
  refine st_aload_1 h dX1_seek_6 ?_
  obtain ⟨g1, hF⟩ := gI hF
  obtain ⟨x1, hx1, hF⟩ := bI hF
  refine st_cVi (vs := [.ref a1]) (st := []) h (w_X10_left hx1) mi_X10_left mv_X10_left ml_X1_19 dX1_seek_7 (shC_e g1) rfl ⟨Nat.le_of_ble_eq_true rfl, Nat.le_of_ble_eq_true rfl⟩ (Nat.le_of_ble_eq_true rfl) rfl ?_
  refine st_ineg h dX1_seek_10 ?_
  refine st_istore_3 h dX1_seek_11 ?_
  refine st_ic_0 h dX1_seek_12 ?_
  refine st_istore_4 h dX1_seek_13 ?_
  exact st_sub (ls_s (ls_s (ls_s (ls_s (ls_s (ls_n ls_e)))))) (w_X1_seek_15 h hr FU s1 a1 a2 (-x1) 0 z hF)
set_option maxRecDepth 100000 in
set_option maxHeartbeats 4000000 in
theorem w_X11_trade_16 {p : Program} {l : Launch} {e : Env} {s : State} {m : MethodId} {args : Array Value} {below : List Frame} {meth : Method} {c : Code} {G : Gv} (h : Cx p s m args meth c G cX11_trade 2 RX11) (hr : meth.sig.returnType = (some .int)) : ∀ (σ : Sto) (z : (Int32 × Sto)), F_X11_trade_16 σ  = some z → AW p l e (rmD 7 0 0) s m args below meth c (MQ below (QcR G shC νC (some (.int z.1)) (ovC z.2)) args s 0 0 (gA G)) 0 0 G 2 16 [some (.ref 0), none] [] shC νC (ovC σ) := by
  intro σ z hF
  rw [F_X11_trade_16] at hF
  refine st_aload_0 h dX11_trade_16 ?_
  refine st_ic_1 h dX11_trade_17 ?_
  obtain ⟨x1, hx1, hF⟩ := bI hF
  refine st_cVi (vs := [.int 1]) (st := []) h (w_X11_refuse hx1) mi_X11_refuse mv_X11_refuse ml_X11_99 dX11_trade_18 kC_0 rfl ⟨Nat.le_of_ble_eq_true rfl, Nat.le_of_ble_eq_true rfl⟩ (Nat.le_of_ble_eq_true rfl) rfl ?_
  cases hF
  exact st_iret h hr dX11_trade_21
set_option maxRecDepth 100000 in
set_option maxHeartbeats 4000000 in
theorem w_X11_trade {l : Launch} {G : Gv} {σ : Sto} {i1 : Int32} {z : (Int32 × Sto)} (hF : F_X11_trade σ i1 = some z) : Con l yX11_trade cX11_trade 2 (some .int) 7 G shC νC [.ref 0, .int i1] (ovC σ) (some (.int z.1)) (ovC z.2) := by
  rw [F_X11_trade] at hF
  refine Con_enter (own := RX11) 0 (lv := [some (.ref 0), some (.int i1)]) mi_X11_trade.2.2.2 rfl (Nat.le_of_ble_eq_true rfl) rfl (fun h hr hin => ?_)
  refine st_aload_0 h dX11_trade_0 ?_
  refine gX11_13 h fl_X11_131 dX11_trade_1 (congrArg Prod.fst kC_0) ?_
  refine st_if_eq (t := 16) h dX11_trade_4 (by decide) (fun q1 => ?_) (fun q1 => ?_)
  · have hF := pI q1 hF
    exact st_sub (ls_s (ls_n ls_e)) (w_X11_trade_16 h hr σ  z hF)
  · have hF := qI q1 hF
    refine st_iload_1 h dX11_trade_7 ?_
    refine st_if_lt (t := 16) h dX11_trade_8 (by decide) (fun q2 => ?_) (fun q2 => ?_)
    · have hF := pI q2 hF
      exact st_sub (ls_s (ls_n ls_e)) (w_X11_trade_16 h hr σ  z hF)
    · have hF := qI q2 hF
      refine st_iload_1 h dX11_trade_11 ?_
      refine st_ic_3 h dX11_trade_12 ?_
      refine st_icmp_le (t := 22) h dX11_trade_13 (by decide) (fun q3 => ?_) (fun q3 => ?_)
      · have hF := pI q3 hF
        refine st_aload_0 h dX11_trade_22 ?_
        refine gX11_9 h fl_X11_73 dX11_trade_23 (congrArg Prod.fst kC_0) ?_
        refine st_aload_0 h dX11_trade_26 ?_
        obtain ⟨x1, hx1, hF⟩ := bI hF
        refine gX11_11 h fl_X11_83 dX11_trade_27 hx1 ?_
        refine st_aload_0 h dX11_trade_30 ?_
        refine gX11_2 h fl_X11_23 dX11_trade_31 (congrArg Prod.fst kC_0) ?_
        obtain ⟨x2, hx2, hF⟩ := bI hF
        refine st_cVi (vs := [.ref x1, .ref 3]) (st := []) h (w_X1_seek hx2) mi_X1_seek mv_X1_seek ml_X11_295 dX11_trade_34 kC_99 rfl ⟨Nat.le_of_ble_eq_true rfl, Nat.le_of_ble_eq_true rfl⟩ (Nat.le_of_ble_eq_true rfl) rfl ?_
        refine st_if_ne (t := 47) h dX11_trade_37 (by decide) (fun q4 => ?_) (fun q4 => ?_)
        · have hF := qI q4 hF
          refine st_aload_0 h dX11_trade_47 ?_
          refine st_aload_0 h dX11_trade_48 ?_
          refine gX11_9 h fl_X11_73 dX11_trade_49 (congrArg Prod.fst kC_0) ?_
          refine gX1_0 h fl_X11_298 dX11_trade_52 (congrArg Prod.fst kC_99) ?_
          refine st_iload_1 h dX11_trade_55 ?_
          obtain ⟨g1, hF⟩ := gI hF
          refine iaC h dX11_trade_56 kC_100 g1 ?_
          obtain ⟨x3, hx3, hF⟩ := bI hF
          refine st_cVi (vs := [.int (x2.2.1 100 (ix i1))]) (st := []) h (w_X11_answer hx3) mi_X11_answer mv_X11_answer ml_X11_125 dX11_trade_57 kC_0 rfl ⟨Nat.le_of_ble_eq_true rfl, Nat.le_of_ble_eq_true rfl⟩ (Nat.le_of_ble_eq_true rfl) rfl ?_
          cases hF
          exact st_iret h hr dX11_trade_60
        · have hF := pI q4 hF
          refine st_aload_0 h dX11_trade_40 ?_
          refine st_bipush (v := 6) h dX11_trade_41 (by decide) ?_
          obtain ⟨x4, hx4, hF⟩ := bI hF
          refine st_cVi (vs := [.int 6]) (st := []) h (w_X11_refuse hx4) mi_X11_refuse mv_X11_refuse ml_X11_99 dX11_trade_43 kC_0 rfl ⟨Nat.le_of_ble_eq_true rfl, Nat.le_of_ble_eq_true rfl⟩ (Nat.le_of_ble_eq_true rfl) rfl ?_
          cases hF
          exact st_iret h hr dX11_trade_46
      · have hF := qI q3 hF
        exact st_sub (ls_s (ls_n ls_e)) (w_X11_trade_16 h hr σ  z hF)
set_option maxRecDepth 100000 in
set_option maxHeartbeats 4000000 in
theorem w_X11_reach_23 {p : Program} {l : Launch} {e : Env} {s : State} {m : MethodId} {args : Array Value} {below : List Frame} {meth : Method} {c : Code} {G : Gv} (h : Cx p s m args meth c G cX11_reach 3 RX11) (hr : meth.sig.returnType = (some .int)) : ∀ (σ : Sto) (z : (Int32 × Sto)), F_X11_reach_23 σ  = some z → AW p l e (rmD 13 0 0) s m args below meth c (MQ below (QcR G shC νC (some (.int z.1)) (ovC z.2)) args s 0 0 (gA G)) 0 0 G 3 23 [some (.ref 0), none, none] [] shC νC (ovC σ) := by
  intro σ z hF
  rw [F_X11_reach_23] at hF
  refine st_aload_0 h dX11_reach_23 ?_
  refine st_ic_2 h dX11_reach_24 ?_
  obtain ⟨x1, hx1, hF⟩ := bI hF
  refine st_cVi (vs := [.int 2]) (st := []) h (w_X11_refuse hx1) mi_X11_refuse mv_X11_refuse ml_X11_99 dX11_reach_25 kC_0 rfl ⟨Nat.le_of_ble_eq_true rfl, Nat.le_of_ble_eq_true rfl⟩ (Nat.le_of_ble_eq_true rfl) rfl ?_
  cases hF
  exact st_iret h hr dX11_reach_28
set_option maxRecDepth 100000 in
set_option maxHeartbeats 4000000 in
theorem w_X11_reach_31 {p : Program} {l : Launch} {e : Env} {s : State} {m : MethodId} {args : Array Value} {below : List Frame} {meth : Method} {c : Code} {G : Gv} (h : Cx p s m args meth c G cX11_reach 3 RX11) (hr : meth.sig.returnType = (some .int)) : ∀ (n : Nat) (σ : Sto) (i1 : Int32) (i2 : Int32) (z : (Int32 × Sto)), F_X11_reach_31 n σ i1 i2 = some z → AW p l e (rmD 13 0 0) s m args below meth c (MQ below (QcR G shC νC (some (.int z.1)) (ovC z.2)) args s 0 0 (gA G)) 0 0 G 3 31 [some (.ref 0), some (.int i1), some (.int i2)] [] shC νC (ovC σ) := by
  intro n
  induction n with
  | zero => intro σ i1 i2 z hF; cases hF
  | succ n ih =>
    intro σ i1 i2 z hF
    rw [F_X11_reach_31] at hF
    refine st_iload_2 h dX11_reach_31 ?_
    refine st_bipush (v := 8) h dX11_reach_32 (by decide) ?_
    refine st_icmp_gt (t := 82) h dX11_reach_34 (by decide) (fun q1 => ?_) (fun q1 => ?_)
    · have hF := pI q1 hF
      refine st_aload_0 h dX11_reach_82 ?_
      refine st_bipush (v := (-2)) h dX11_reach_83 (by decide) ?_
      obtain ⟨x1, hx1, hF⟩ := bI hF
      refine st_cVi (vs := [.int (-2)]) (st := []) h (w_X11_answer hx1) mi_X11_answer mv_X11_answer ml_X11_125 dX11_reach_85 kC_0 rfl ⟨Nat.le_of_ble_eq_true rfl, Nat.le_of_ble_eq_true rfl⟩ (Nat.le_of_ble_eq_true rfl) rfl ?_
      cases hF
      exact st_iret h hr dX11_reach_88
    · have hF := qI q1 hF
      refine st_aload_0 h dX11_reach_37 ?_
      refine gX11_8 h fl_X11_66 dX11_reach_38 (congrArg Prod.fst kC_0) ?_
      refine st_aload_0 h dX11_reach_41 ?_
      obtain ⟨x2, hx2, hF⟩ := bI hF
      refine gX11_11 h fl_X11_83 dX11_reach_42 hx2 ?_
      refine st_aload_0 h dX11_reach_45 ?_
      refine gX11_2 h fl_X11_23 dX11_reach_46 (congrArg Prod.fst kC_0) ?_
      refine st_iload_2 h dX11_reach_49 ?_
      obtain ⟨x3, hx3, hF⟩ := bI hF
      refine st_cVv (vs := [.ref x2, .ref 3, .int i2]) (st := []) h (w_X4_walk hx3) mi_X4_walk mv_X4_walk ml_X11_246 dX11_reach_50 kC_84 rfl ⟨Nat.le_of_ble_eq_true rfl, Nat.le_of_ble_eq_true rfl⟩ (Nat.le_of_ble_eq_true rfl) rfl ?_
      refine st_aload_0 h dX11_reach_53 ?_
      refine gX11_8 h fl_X11_66 dX11_reach_54 (congrArg Prod.fst kC_0) ?_
      refine gX4_4 h fl_X11_250 dX11_reach_57 (congrArg Prod.fst kC_84) ?_
      refine st_iload_2 h dX11_reach_60 ?_
      refine st_ic_4 h dX11_reach_61 ?_
      refine st_imul h dX11_reach_62 ?_
      refine st_ic_2 h dX11_reach_63 ?_
      refine st_iadd h dX11_reach_64 ?_
      obtain ⟨g1, hF⟩ := gI hF
      refine iaC h dX11_reach_65 kC_97 g1 ?_
      refine st_iload_1 h dX11_reach_66 ?_
      refine st_icmp_gt (t := 76) h dX11_reach_67 (by decide) (fun q2 => ?_) (fun q2 => ?_)
      · have hF := pI q2 hF
        refine st_iinc_2 (y := i2 + 1) h dX11_reach_76 (ii_1 _) ?_
        refine st_goto (t := 31) h dX11_reach_79 (by decide) ?_
        exact st_sub (ls_s (ls_s (ls_s ls_e))) (ih x3 i1 (i2 + 1) z hF)
      · have hF := qI q2 hF
        refine st_aload_0 h dX11_reach_70 ?_
        refine st_iload_2 h dX11_reach_71 ?_
        obtain ⟨x4, hx4, hF⟩ := bI hF
        refine st_cVi (vs := [.int i2]) (st := []) h (w_X11_answer hx4) mi_X11_answer mv_X11_answer ml_X11_125 dX11_reach_72 kC_0 rfl ⟨Nat.le_of_ble_eq_true rfl, Nat.le_of_ble_eq_true rfl⟩ (Nat.le_of_ble_eq_true rfl) rfl ?_
        cases hF
        exact st_iret h hr dX11_reach_75
set_option maxRecDepth 100000 in
set_option maxHeartbeats 4000000 in
theorem w_X11_reach {l : Launch} {G : Gv} {σ : Sto} {i1 : Int32} {z : (Int32 × Sto)} (hF : F_X11_reach σ i1 = some z) : Con l yX11_reach cX11_reach 3 (some .int) 13 G shC νC [.ref 0, .int i1] (ovC σ) (some (.int z.1)) (ovC z.2) := by
  rw [F_X11_reach] at hF
  refine Con_enter (own := RX11) 1 (lv := [some (.ref 0), some (.int i1), none]) mi_X11_reach.2.2.2 rfl (Nat.le_of_ble_eq_true rfl) rfl (fun h hr hin => ?_)
  refine st_aload_0 h dX11_reach_0 ?_
  refine gX11_13 h fl_X11_131 dX11_reach_1 (congrArg Prod.fst kC_0) ?_
  refine st_if_ne (t := 13) h dX11_reach_4 (by decide) (fun q1 => ?_) (fun q1 => ?_)
  · have hF := qI q1 hF
    refine st_iload_1 h dX11_reach_13 ?_
    refine st_if_lt (t := 23) h dX11_reach_14 (by decide) (fun q2 => ?_) (fun q2 => ?_)
    · have hF := pI q2 hF
      exact st_sub (ls_s (ls_n (ls_n ls_e))) (w_X11_reach_23 h hr σ  z hF)
    · have hF := qI q2 hF
      refine st_iload_1 h dX11_reach_17 ?_
      refine st_bipush (v := 80) h dX11_reach_18 (by decide) ?_
      refine st_icmp_le (t := 29) h dX11_reach_20 (by decide) (fun q3 => ?_) (fun q3 => ?_)
      · have hF := pI q3 hF
        refine st_ic_0 h dX11_reach_29 ?_
        refine st_istore_2 h dX11_reach_30 ?_
        exact st_sub (ls_s (ls_s (ls_s ls_e))) (w_X11_reach_31 h hr FU σ i1 0 z hF)
      · have hF := qI q3 hF
        exact st_sub (ls_s (ls_n (ls_n ls_e))) (w_X11_reach_23 h hr σ  z hF)
  · have hF := pI q1 hF
    refine st_aload_0 h dX11_reach_7 ?_
    refine st_ic_1 h dX11_reach_8 ?_
    obtain ⟨x1, hx1, hF⟩ := bI hF
    refine st_cVi (vs := [.int 1]) (st := []) h (w_X11_refuse hx1) mi_X11_refuse mv_X11_refuse ml_X11_99 dX11_reach_9 kC_0 rfl ⟨Nat.le_of_ble_eq_true rfl, Nat.le_of_ble_eq_true rfl⟩ (Nat.le_of_ble_eq_true rfl) rfl ?_
    cases hF
    exact st_iret h hr dX11_reach_12
set_option maxRecDepth 100000 in
set_option maxHeartbeats 4000000 in
theorem w_X4_nextProfit {l : Launch} {G : Gv} {σ : Sto} {a1 : Nat} {a2 : Nat} {z : (Int32 × Sto)} (hF : F_X4_nextProfit σ a1 a2 = some z) : Con l yX4_nextProfit cX4_nextProfit 3 (some .int) 11 G shC νC [.ref 84, .ref a1, .ref a2] (ovC σ) (some (.int z.1)) (ovC z.2) := by
  rw [F_X4_nextProfit] at hF
  refine Con_enter (own := RX4) 0 (lv := [some (.ref 84), some (.ref a1), some (.ref a2)]) mi_X4_nextProfit.2.2.2 rfl (Nat.le_of_ble_eq_true rfl) rfl (fun h hr hin => ?_)
  refine st_aload_0 h dX4_nextProfit_0 ?_
  refine gX4_9 h fl_X4_43 dX4_nextProfit_1 (congrArg Prod.fst kC_84) ?_
  refine st_if_ne (t := 66) h dX4_nextProfit_4 (by decide) (fun q1 => ?_) (fun q1 => ?_)
  · have hF := qI q1 hF
    refine st_aload_0 h dX4_nextProfit_66 ?_
    refine gX4_10 h fl_X4_104 dX4_nextProfit_67 (congrArg Prod.fst kC_84) ?_
    cases hF
    exact st_iret h hr dX4_nextProfit_70
  · have hF := pI q1 hF
    refine st_aload_0 h dX4_nextProfit_7 ?_
    refine gX4_3 h fl_X4_25 dX4_nextProfit_8 (congrArg Prod.fst kC_84) ?_
    refine st_aload_2 h dX4_nextProfit_11 ?_
    obtain ⟨x1, hx1, hF⟩ := bI hF
    refine st_cVv (vs := [.ref a2]) (st := []) h (w_X10_copy hx1) mi_X10_copy mv_X10_copy ml_X4_53 dX4_nextProfit_12 kC_92 rfl ⟨Nat.le_of_ble_eq_true rfl, Nat.le_of_ble_eq_true rfl⟩ (Nat.le_of_ble_eq_true rfl) rfl ?_
    refine st_aload_0 h dX4_nextProfit_15 ?_
    refine gX4_3 h fl_X4_25 dX4_nextProfit_16 (congrArg Prod.fst kC_84) ?_
    refine st_aload_1 h dX4_nextProfit_19 ?_
    obtain ⟨x2, hx2, hF⟩ := bI hF
    refine st_cVv (vs := [.ref a1]) (st := []) h (w_X10_end hx2) mi_X10_end mv_X10_end ml_X4_90 dX4_nextProfit_20 kC_92 rfl ⟨Nat.le_of_ble_eq_true rfl, Nat.le_of_ble_eq_true rfl⟩ (Nat.le_of_ble_eq_true rfl) rfl ?_
    refine st_aload_0 h dX4_nextProfit_23 ?_
    refine gX4_0 h fl_X4_35 dX4_nextProfit_24 (congrArg Prod.fst kC_84) ?_
    refine st_aload_1 h dX4_nextProfit_27 ?_
    refine st_aload_0 h dX4_nextProfit_28 ?_
    refine gX4_3 h fl_X4_25 dX4_nextProfit_29 (congrArg Prod.fst kC_84) ?_
    obtain ⟨x3, hx3, hF⟩ := bI hF
    refine st_cVv (vs := [.ref a1, .ref 92]) (st := []) h (w_X8_begin hx3) mi_X8_begin mv_X8_begin ml_X4_70 dX4_nextProfit_32 kC_63 rfl ⟨Nat.le_of_ble_eq_true rfl, Nat.le_of_ble_eq_true rfl⟩ (Nat.le_of_ble_eq_true rfl) rfl ?_
    refine st_aload_0 h dX4_nextProfit_35 ?_
    refine gX4_0 h fl_X4_35 dX4_nextProfit_36 (congrArg Prod.fst kC_84) ?_
    refine st_aload_1 h dX4_nextProfit_39 ?_
    obtain ⟨g1, hF⟩ := gI hF
    refine gX9_7 h fl_X4_76 dX4_nextProfit_40 g1 ?_
    refine st_aload_0 h dX4_nextProfit_43 ?_
    refine gX4_1 h fl_X4_12 dX4_nextProfit_44 (congrArg Prod.fst kC_84) ?_
    obtain ⟨x4, hx4, hF⟩ := bI hF
    refine st_cVv (vs := [.ref (a1 + 6), .ref 85]) (st := []) h (w_X8_find hx4) mi_X8_find mv_X8_find ml_X4_79 dX4_nextProfit_47 kC_63 rfl ⟨Nat.le_of_ble_eq_true rfl, Nat.le_of_ble_eq_true rfl⟩ (Nat.le_of_ble_eq_true rfl) rfl ?_
    refine st_aload_0 h dX4_nextProfit_50 ?_
    refine st_aload_0 h dX4_nextProfit_51 ?_
    refine gX4_1 h fl_X4_12 dX4_nextProfit_52 (congrArg Prod.fst kC_84) ?_
    refine gX7_2 h fl_X4_94 dX4_nextProfit_55 (congrArg Prod.fst kC_85) ?_
    obtain ⟨s1, hs1, hF⟩ := swI hF
    refine pX4_10 h fl_X4_104 dX4_nextProfit_58 (congrArg Prod.fst kC_84) hs1 ?_
    refine st_aload_0 h dX4_nextProfit_61 ?_
    refine st_ic_1 h dX4_nextProfit_62 ?_
    obtain ⟨s2, hs2, hF⟩ := swI hF
    refine pX4_9 h fl_X4_43 dX4_nextProfit_63 (congrArg Prod.fst kC_84) (Or.inr rfl) hs2 ?_
    refine st_aload_0 h dX4_nextProfit_66 ?_
    refine gX4_10 h fl_X4_104 dX4_nextProfit_67 (congrArg Prod.fst kC_84) ?_
    cases hF
    exact st_iret h hr dX4_nextProfit_70
set_option maxRecDepth 100000 in
set_option maxHeartbeats 4000000 in
theorem w_X11_next {l : Launch} {G : Gv} {σ : Sto} {z : (Int32 × Sto)} (hF : F_X11_next σ  = some z) : Con l yX11_next cX11_next 1 (some .int) 12 G shC νC [.ref 0] (ovC σ) (some (.int z.1)) (ovC z.2) := by
  rw [F_X11_next] at hF
  refine Con_enter (own := RX11) 0 (lv := [some (.ref 0)]) mi_X11_next.2.2.2 rfl (Nat.le_of_ble_eq_true rfl) rfl (fun h hr hin => ?_)
  refine st_aload_0 h dX11_next_0 ?_
  refine gX11_13 h fl_X11_131 dX11_next_1 (congrArg Prod.fst kC_0) ?_
  refine st_if_ne (t := 13) h dX11_next_4 (by decide) (fun q1 => ?_) (fun q1 => ?_)
  · have hF := qI q1 hF
    refine st_aload_0 h dX11_next_13 ?_
    refine st_aload_0 h dX11_next_14 ?_
    refine gX11_8 h fl_X11_66 dX11_next_15 (congrArg Prod.fst kC_0) ?_
    refine st_aload_0 h dX11_next_18 ?_
    obtain ⟨x1, hx1, hF⟩ := bI hF
    refine gX11_11 h fl_X11_83 dX11_next_19 hx1 ?_
    refine st_aload_0 h dX11_next_22 ?_
    refine gX11_2 h fl_X11_23 dX11_next_23 (congrArg Prod.fst kC_0) ?_
    obtain ⟨x2, hx2, hF⟩ := bI hF
    refine st_cVi (vs := [.ref x1, .ref 3]) (st := [.ref 0]) h (w_X4_nextProfit hx2) mi_X4_nextProfit mv_X4_nextProfit ml_X11_301 dX11_next_26 kC_84 rfl ⟨Nat.le_of_ble_eq_true rfl, Nat.le_of_ble_eq_true rfl⟩ (Nat.le_of_ble_eq_true rfl) rfl ?_
    obtain ⟨x3, hx3, hF⟩ := bI hF
    refine st_cVi (vs := [.int x2.1]) (st := []) h (w_X11_answer hx3) mi_X11_answer mv_X11_answer ml_X11_125 dX11_next_29 kC_0 rfl ⟨Nat.le_of_ble_eq_true rfl, Nat.le_of_ble_eq_true rfl⟩ (Nat.le_of_ble_eq_true rfl) rfl ?_
    cases hF
    exact st_iret h hr dX11_next_32
  · have hF := pI q1 hF
    refine st_aload_0 h dX11_next_7 ?_
    refine st_ic_1 h dX11_next_8 ?_
    obtain ⟨x4, hx4, hF⟩ := bI hF
    refine st_cVi (vs := [.int 1]) (st := []) h (w_X11_refuse hx4) mi_X11_refuse mv_X11_refuse ml_X11_99 dX11_next_9 kC_0 rfl ⟨Nat.le_of_ble_eq_true rfl, Nat.le_of_ble_eq_true rfl⟩ (Nat.le_of_ble_eq_true rfl) rfl ?_
    cases hF
    exact st_iret h hr dX11_next_12
set_option maxRecDepth 100000 in
set_option maxHeartbeats 4000000 in
theorem w_X11_gains {l : Launch} {G : Gv} {σ : Sto} {i1 : Int32} {z : (Int32 × Sto)} (hF : F_X11_gains σ i1 = some z) : Con l yX11_gains cX11_gains 3 (some .int) 5 G shC νC [.ref 0, .int i1] (ovC σ) (some (.int z.1)) (ovC z.2) := by
  rw [F_X11_gains] at hF
  refine Con_enter (own := RX11) 1 (lv := [some (.ref 0), some (.int i1), none]) mi_X11_gains.2.2.2 rfl (Nat.le_of_ble_eq_true rfl) rfl (fun h hr hin => ?_)
  refine st_aload_0 h dX11_gains_0 ?_
  refine st_iload_1 h dX11_gains_1 ?_
  obtain ⟨x1, hx1, hF⟩ := bI hF
  refine st_cVi (vs := [.int i1]) (st := []) h (w_X11_noService hx1) mi_X11_noService mv_X11_noService ml_X11_176 dX11_gains_2 kC_0 rfl ⟨Nat.le_of_ble_eq_true rfl, Nat.le_of_ble_eq_true rfl⟩ (Nat.le_of_ble_eq_true rfl) rfl ?_
  refine st_if_eq (t := 14) h dX11_gains_5 (by decide) (fun q1 => ?_) (fun q1 => ?_)
  · have hF := pI q1 hF
    refine st_aload_0 h dX11_gains_14 ?_
    refine gX11_2 h fl_X11_23 dX11_gains_15 (congrArg Prod.fst kC_0) ?_
    refine st_aload_0 h dX11_gains_18 ?_
    obtain ⟨x2, hx2, hF⟩ := bI hF
    refine gX11_11 h fl_X11_83 dX11_gains_19 hx2 ?_
    obtain ⟨x3, hx3, hF⟩ := bI hF
    refine st_cVi (vs := [.ref x2]) (st := []) h (w_X10_dues hx3) mi_X10_dues mv_X10_dues ml_X11_153 dX11_gains_22 kC_3 rfl ⟨Nat.le_of_ble_eq_true rfl, Nat.le_of_ble_eq_true rfl⟩ (Nat.le_of_ble_eq_true rfl) rfl ?_
    refine st_aload_0 h dX11_gains_25 ?_
    refine gX11_2 h fl_X11_23 dX11_gains_26 (congrArg Prod.fst kC_0) ?_
    refine st_aload_0 h dX11_gains_29 ?_
    obtain ⟨x4, hx4, hF⟩ := bI hF
    refine gX11_11 h fl_X11_83 dX11_gains_30 hx4 ?_
    refine st_iload_1 h dX11_gains_33 ?_
    obtain ⟨x5, hx5, hF⟩ := bI hF
    refine st_cVi (vs := [.ref x4, .int i1]) (st := [.int x3]) h (w_X10_duesOf hx5) mi_X10_duesOf mv_X10_duesOf ml_X11_304 dX11_gains_34 kC_3 rfl ⟨Nat.le_of_ble_eq_true rfl, Nat.le_of_ble_eq_true rfl⟩ (Nat.le_of_ble_eq_true rfl) rfl ?_
    refine st_isub h dX11_gains_37 ?_
    refine st_istore_2 h dX11_gains_38 ?_
    refine st_aload_0 h dX11_gains_39 ?_
    refine st_aload_0 h dX11_gains_40 ?_
    refine gX11_2 h fl_X11_23 dX11_gains_41 (congrArg Prod.fst kC_0) ?_
    refine st_aload_0 h dX11_gains_44 ?_
    obtain ⟨x6, hx6, hF⟩ := bI hF
    refine gX11_11 h fl_X11_83 dX11_gains_45 hx6 ?_
    refine st_iload_2 h dX11_gains_48 ?_
    obtain ⟨x7, hx7, hF⟩ := bI hF
    refine st_cVi (vs := [.ref x6, .int (x3 - x5)]) (st := [.ref 0]) h (w_X10_allowedWith hx7) mi_X10_allowedWith mv_X10_allowedWith ml_X11_307 dX11_gains_49 kC_3 rfl ⟨Nat.le_of_ble_eq_true rfl, Nat.le_of_ble_eq_true rfl⟩ (Nat.le_of_ble_eq_true rfl) rfl ?_
    refine st_aload_0 h dX11_gains_52 ?_
    refine gX11_2 h fl_X11_23 dX11_gains_53 (congrArg Prod.fst kC_0) ?_
    refine st_aload_0 h dX11_gains_56 ?_
    obtain ⟨x8, hx8, hF⟩ := bI hF
    refine gX11_11 h fl_X11_83 dX11_gains_57 hx8 ?_
    obtain ⟨x9, hx9, hF⟩ := bI hF
    refine st_cVi (vs := [.ref x8]) (st := [.int x7, .ref 0]) h (w_X10_allowed hx9) mi_X10_allowed mv_X10_allowed ml_X11_156 dX11_gains_60 kC_3 rfl ⟨Nat.le_of_ble_eq_true rfl, Nat.le_of_ble_eq_true rfl⟩ (Nat.le_of_ble_eq_true rfl) rfl ?_
    refine st_isub h dX11_gains_63 ?_
    obtain ⟨x10, hx10, hF⟩ := bI hF
    refine st_cVi (vs := [.int (x7 - x9)]) (st := []) h (w_X11_answer hx10) mi_X11_answer mv_X11_answer ml_X11_125 dX11_gains_64 kC_0 rfl ⟨Nat.le_of_ble_eq_true rfl, Nat.le_of_ble_eq_true rfl⟩ (Nat.le_of_ble_eq_true rfl) rfl ?_
    cases hF
    exact st_iret h hr dX11_gains_67
  · have hF := qI q1 hF
    refine st_aload_0 h dX11_gains_8 ?_
    refine st_ic_1 h dX11_gains_9 ?_
    obtain ⟨x11, hx11, hF⟩ := bI hF
    refine st_cVi (vs := [.int 1]) (st := []) h (w_X11_refuse hx11) mi_X11_refuse mv_X11_refuse ml_X11_99 dX11_gains_10 kC_0 rfl ⟨Nat.le_of_ble_eq_true rfl, Nat.le_of_ble_eq_true rfl⟩ (Nat.le_of_ble_eq_true rfl) rfl ?_
    cases hF
    exact st_iret h hr dX11_gains_13
set_option maxRecDepth 100000 in
set_option maxHeartbeats 4000000 in
theorem w_X11_share_17 {p : Program} {l : Launch} {e : Env} {s : State} {m : MethodId} {args : Array Value} {below : List Frame} {meth : Method} {c : Code} {G : Gv} (h : Cx p s m args meth c G cX11_share 3 RX11) (hr : meth.sig.returnType = (some .int)) : ∀ (σ : Sto) (z : (Int32 × Sto)), F_X11_share_17 σ  = some z → AW p l e (rmD 3 0 0) s m args below meth c (MQ below (QcR G shC νC (some (.int z.1)) (ovC z.2)) args s 0 0 (gA G)) 0 0 G 3 17 [some (.ref 0), none, none] [] shC νC (ovC σ) := by
  intro σ z hF
  rw [F_X11_share_17] at hF
  refine st_aload_0 h dX11_share_17 ?_
  refine st_ic_1 h dX11_share_18 ?_
  obtain ⟨x1, hx1, hF⟩ := bI hF
  refine st_cVi (vs := [.int 1]) (st := []) h (w_X11_refuse hx1) mi_X11_refuse mv_X11_refuse ml_X11_99 dX11_share_19 kC_0 rfl ⟨Nat.le_of_ble_eq_true rfl, Nat.le_of_ble_eq_true rfl⟩ (Nat.le_of_ble_eq_true rfl) rfl ?_
  cases hF
  exact st_iret h hr dX11_share_22
set_option maxRecDepth 100000 in
set_option maxHeartbeats 4000000 in
theorem w_X11_share {l : Launch} {G : Gv} {σ : Sto} {i1 : Int32} {i2 : Int32} {z : (Int32 × Sto)} (hF : F_X11_share σ i1 i2 = some z) : Con l yX11_share cX11_share 3 (some .int) 3 G shC νC [.ref 0, .int i1, .int i2] (ovC σ) (some (.int z.1)) (ovC z.2) := by
  rw [F_X11_share] at hF
  refine Con_enter (own := RX11) 0 (lv := [some (.ref 0), some (.int i1), some (.int i2)]) mi_X11_share.2.2.2 rfl (Nat.le_of_ble_eq_true rfl) rfl (fun h hr hin => ?_)
  refine st_aload_0 h dX11_share_0 ?_
  refine st_iload_1 h dX11_share_1 ?_
  obtain ⟨x1, hx1, hF⟩ := bI hF
  refine st_cVi (vs := [.int i1]) (st := []) h (w_X11_noService hx1) mi_X11_noService mv_X11_noService ml_X11_176 dX11_share_2 kC_0 rfl ⟨Nat.le_of_ble_eq_true rfl, Nat.le_of_ble_eq_true rfl⟩ (Nat.le_of_ble_eq_true rfl) rfl ?_
  refine st_if_ne (t := 17) h dX11_share_5 (by decide) (fun q1 => ?_) (fun q1 => ?_)
  · have hF := qI q1 hF
    exact st_sub (ls_s (ls_n (ls_n ls_e))) (w_X11_share_17 h hr σ  z hF)
  · have hF := pI q1 hF
    refine st_iload_2 h dX11_share_8 ?_
    refine st_if_lt (t := 17) h dX11_share_9 (by decide) (fun q2 => ?_) (fun q2 => ?_)
    · have hF := pI q2 hF
      exact st_sub (ls_s (ls_n (ls_n ls_e))) (w_X11_share_17 h hr σ  z hF)
    · have hF := qI q2 hF
      refine st_iload_2 h dX11_share_12 ?_
      refine st_ic_1 h dX11_share_13 ?_
      refine st_icmp_le (t := 23) h dX11_share_14 (by decide) (fun q3 => ?_) (fun q3 => ?_)
      · have hF := pI q3 hF
        refine st_aload_0 h dX11_share_23 ?_
        refine st_aload_0 h dX11_share_24 ?_
        refine gX11_2 h fl_X11_23 dX11_share_25 (congrArg Prod.fst kC_0) ?_
        refine gX10_3 h fl_X11_173 dX11_share_28 (congrArg Prod.fst kC_3) ?_
        refine st_iload_1 h dX11_share_31 ?_
        obtain ⟨g1, hF⟩ := gI hF
        refine iaC h dX11_share_32 (sk_10_3 (congrArg Prod.fst kC_3)) g1 ?_
        refine st_aload_0 h dX11_share_33 ?_
        refine gX11_2 h fl_X11_23 dX11_share_34 (congrArg Prod.fst kC_0) ?_
        refine st_aload_0 h dX11_share_37 ?_
        obtain ⟨x2, hx2, hF⟩ := bI hF
        refine gX11_11 h fl_X11_83 dX11_share_38 hx2 ?_
        refine st_iload_1 h dX11_share_41 ?_
        obtain ⟨x3, hx3, hF⟩ := bI hF
        refine st_cVi (vs := [.ref x2, .int i1]) (st := [.int (σ.1 (3 + 2) (ix i1)), .ref 0]) h (w_X10_weight hx3) mi_X10_weight mv_X10_weight ml_X11_187 dX11_share_42 kC_3 rfl ⟨Nat.le_of_ble_eq_true rfl, Nat.le_of_ble_eq_true rfl⟩ (Nat.le_of_ble_eq_true rfl) rfl ?_
        refine st_imul h dX11_share_45 ?_
        refine st_aload_0 h dX11_share_46 ?_
        refine gX11_2 h fl_X11_23 dX11_share_47 (congrArg Prod.fst kC_0) ?_
        refine st_aload_0 h dX11_share_50 ?_
        obtain ⟨x4, hx4, hF⟩ := bI hF
        refine gX11_11 h fl_X11_83 dX11_share_51 hx4 ?_
        obtain ⟨x5, hx5, hF⟩ := bI hF
        refine st_cVi (vs := [.ref x4]) (st := [.int ((σ.1 (3 + 2) (ix i1)) * x3), .ref 0]) h (w_X10_spent hx5) mi_X10_spent mv_X10_spent ml_X11_159 dX11_share_54 kC_3 rfl ⟨Nat.le_of_ble_eq_true rfl, Nat.le_of_ble_eq_true rfl⟩ (Nat.le_of_ble_eq_true rfl) rfl ?_
        refine st_iload_2 h dX11_share_57 ?_
        obtain ⟨x6, hx6, hF⟩ := bI hF
        refine st_cVi (vs := [.int ((σ.1 (3 + 2) (ix i1)) * x3), .int x5, .int i2]) (st := []) h (w_X11_lowestTerms hx6) mi_X11_lowestTerms mv_X11_lowestTerms ml_X11_291 dX11_share_58 kC_0 rfl ⟨Nat.le_of_ble_eq_true rfl, Nat.le_of_ble_eq_true rfl⟩ (Nat.le_of_ble_eq_true rfl) rfl ?_
        cases hF
        exact st_iret h hr dX11_share_61
      · have hF := qI q3 hF
        exact st_sub (ls_s (ls_n (ls_n ls_e))) (w_X11_share_17 h hr σ  z hF)
set_option maxRecDepth 100000 in
set_option maxHeartbeats 4000000 in
theorem w_X11_putWritten {l : Launch} {G : Gv} {σ : Sto} {i1 : Int32} {z : Sto} (hF : F_X11_putWritten σ i1 = some z) : Con l yX11_putWritten cX11_putWritten 2 none 1 G shC νC [.ref 0, .int i1] (ovC σ) none (ovC z) := by
  rw [F_X11_putWritten] at hF
  refine Con_enter (own := RX11) 0 (lv := [some (.ref 0), some (.int i1)]) mi_X11_putWritten.2.2.2 rfl (Nat.le_of_ble_eq_true rfl) rfl (fun h hr hin => ?_)
  refine st_aload_0 h dX11_putWritten_0 ?_
  refine gX11_15 h fl_X11_310 dX11_putWritten_1 (congrArg Prod.fst kC_0) ?_
  refine st_bipush (v := 11) h dX11_putWritten_4 (by decide) ?_
  refine st_icmp_ge (t := 29) h dX11_putWritten_6 (by decide) (fun q1 => ?_) (fun q1 => ?_)
  · have hF := pI q1 hF
    cases hF
    exact st_vret h hr dX11_putWritten_29
  · have hF := qI q1 hF
    refine st_aload_0 h dX11_putWritten_9 ?_
    refine gX11_10 h fl_X11_77 dX11_putWritten_10 (congrArg Prod.fst kC_0) ?_
    refine st_aload_0 h dX11_putWritten_13 ?_
    refine gX11_15 h fl_X11_310 dX11_putWritten_14 (congrArg Prod.fst kC_0) ?_
    refine st_iload_1 h dX11_putWritten_17 ?_
    obtain ⟨g1, hF⟩ := gI hF
    obtain ⟨s1, hs1, hF⟩ := swI hF
    refine isC h dX11_putWritten_18 kC_101 g1 hs1 ?_
    refine st_aload_0 h dX11_putWritten_19 ?_
    refine st_dup h rfl dX11_putWritten_20 ?_
    refine gX11_15 h fl_X11_310 dX11_putWritten_21 (congrArg Prod.fst kC_0) ?_
    refine st_ic_1 h dX11_putWritten_24 ?_
    refine st_iadd h dX11_putWritten_25 ?_
    obtain ⟨s2, hs2, hF⟩ := swI hF
    refine pX11_15 h fl_X11_310 dX11_putWritten_26 (congrArg Prod.fst kC_0) hs2 ?_
    cases hF
    exact st_vret h hr dX11_putWritten_29
set_option maxRecDepth 100000 in
set_option maxHeartbeats 4000000 in
theorem w_X11_write_68 {p : Program} {l : Launch} {e : Env} {s : State} {m : MethodId} {args : Array Value} {below : List Frame} {meth : Method} {c : Code} {G : Gv} (h : Cx p s m args meth c G cX11_write 3 RX11) (hr : meth.sig.returnType = (some .int)) {k20 : Sto → Int32 → Option (Int32 × Sto)} (H20 : ∀ (σ : Sto) (i1 : Int32) (z : (Int32 × Sto)), k20 σ i1 = some z → AW p l e (rmD 2 0 0) s m args below meth c (MQ below (QcR G shC νC (some (.int z.1)) (ovC z.2)) args s 0 0 (gA G)) 0 0 G 3 20 [some (.ref 0), some (.int i1), none] [] shC νC (ovC σ)) : ∀ (σ : Sto) (i1 : Int32) (i2 : Int32) (z : (Int32 × Sto)), F_X11_write_68 k20 σ i1 i2 = some z → AW p l e (rmD 2 0 0) s m args below meth c (MQ below (QcR G shC νC (some (.int z.1)) (ovC z.2)) args s 0 0 (gA G)) 0 0 G 3 68 [some (.ref 0), some (.int i1), some (.int i2)] [] shC νC (ovC σ) := by
  intro σ i1 i2 z hF
  rw [F_X11_write_68] at hF
  refine st_aload_0 h dX11_write_68 ?_
  refine st_bipush (v := 48) h dX11_write_69 (by decide) ?_
  refine st_iload_2 h dX11_write_71 ?_
  refine st_bipush (v := 10) h dX11_write_72 (by decide) ?_
  refine st_irem h (by decide) dX11_write_74 ?_
  refine st_iadd h dX11_write_75 ?_
  obtain ⟨x1, hx1, hF⟩ := bI hF
  refine st_cVv (vs := [.int (48 + (i2 - i2 / 10 * 10))]) (st := []) h (w_X11_putWritten hx1) mi_X11_putWritten mv_X11_putWritten ml_X11_313 dX11_write_76 kC_0 rfl ⟨Nat.le_of_ble_eq_true rfl, Nat.le_of_ble_eq_true rfl⟩ (Nat.le_of_ble_eq_true rfl) rfl ?_
  refine st_iinc_1 (y := i1 + 1) h dX11_write_79 (ii_1 _) ?_
  refine st_goto (t := 20) h dX11_write_82 (by decide) ?_
  exact st_sub (ls_s (ls_s (ls_n ls_e))) (H20 x1 (i1 + 1) z hF)
set_option maxRecDepth 100000 in
set_option maxHeartbeats 4000000 in
theorem w_X11_write_41 {p : Program} {l : Launch} {e : Env} {s : State} {m : MethodId} {args : Array Value} {below : List Frame} {meth : Method} {c : Code} {G : Gv} (h : Cx p s m args meth c G cX11_write 3 RX11) (hr : meth.sig.returnType = (some .int)) {k20 : Sto → Int32 → Option (Int32 × Sto)} (H20 : ∀ (σ : Sto) (i1 : Int32) (z : (Int32 × Sto)), k20 σ i1 = some z → AW p l e (rmD 2 0 0) s m args below meth c (MQ below (QcR G shC νC (some (.int z.1)) (ovC z.2)) args s 0 0 (gA G)) 0 0 G 3 20 [some (.ref 0), some (.int i1), none] [] shC νC (ovC σ)) : ∀ (σ : Sto) (i1 : Int32) (z : (Int32 × Sto)), F_X11_write_41 k20 σ i1 = some z → AW p l e (rmD 2 0 0) s m args below meth c (MQ below (QcR G shC νC (some (.int z.1)) (ovC z.2)) args s 0 0 (gA G)) 0 0 G 3 41 [some (.ref 0), some (.int i1), none] [] shC νC (ovC σ) := by
  intro σ i1 z hF
  rw [F_X11_write_41] at hF
  refine st_aload_0 h dX11_write_41 ?_
  refine gX11_2 h fl_X11_23 dX11_write_42 (congrArg Prod.fst kC_0) ?_
  refine gX10_3 h fl_X11_173 dX11_write_45 (congrArg Prod.fst kC_3) ?_
  refine st_iload_1 h dX11_write_48 ?_
  obtain ⟨g1, hF⟩ := gI hF
  refine iaC h dX11_write_49 (sk_10_3 (congrArg Prod.fst kC_3)) g1 ?_
  refine st_istore_2 h dX11_write_50 ?_
  refine st_iload_2 h dX11_write_51 ?_
  refine st_bipush (v := 10) h dX11_write_52 (by decide) ?_
  refine st_icmp_lt (t := 68) h dX11_write_54 (by decide) (fun q1 => ?_) (fun q1 => ?_)
  · have hF := pI q1 hF
    exact st_sub (ls_s (ls_s (ls_s ls_e))) (w_X11_write_68 h hr H20 σ i1 (σ.1 (3 + 2) (ix i1)) z hF)
  · have hF := qI q1 hF
    refine st_aload_0 h dX11_write_57 ?_
    refine st_bipush (v := 48) h dX11_write_58 (by decide) ?_
    refine st_iload_2 h dX11_write_60 ?_
    refine st_bipush (v := 10) h dX11_write_61 (by decide) ?_
    refine st_idiv h (by decide) dX11_write_63 ?_
    refine st_iadd h dX11_write_64 ?_
    obtain ⟨x1, hx1, hF⟩ := bI hF
    refine st_cVv (vs := [.int (48 + ((σ.1 (3 + 2) (ix i1)) / 10))]) (st := []) h (w_X11_putWritten hx1) mi_X11_putWritten mv_X11_putWritten ml_X11_313 dX11_write_65 kC_0 rfl ⟨Nat.le_of_ble_eq_true rfl, Nat.le_of_ble_eq_true rfl⟩ (Nat.le_of_ble_eq_true rfl) rfl ?_
    exact st_sub (ls_s (ls_s (ls_s ls_e))) (w_X11_write_68 h hr H20 x1 i1 (σ.1 (3 + 2) (ix i1)) z hF)
set_option maxRecDepth 100000 in
set_option maxHeartbeats 4000000 in
theorem w_X11_write_20 {p : Program} {l : Launch} {e : Env} {s : State} {m : MethodId} {args : Array Value} {below : List Frame} {meth : Method} {c : Code} {G : Gv} (h : Cx p s m args meth c G cX11_write 3 RX11) (hr : meth.sig.returnType = (some .int)) : ∀ (n : Nat) (σ : Sto) (i1 : Int32) (z : (Int32 × Sto)), F_X11_write_20 n σ i1 = some z → AW p l e (rmD 2 0 0) s m args below meth c (MQ below (QcR G shC νC (some (.int z.1)) (ovC z.2)) args s 0 0 (gA G)) 0 0 G 3 20 [some (.ref 0), some (.int i1), none] [] shC νC (ovC σ) := by
  intro n
  induction n with
  | zero => intro σ i1 z hF; cases hF
  | succ n ih =>
    intro σ i1 z hF
    rw [F_X11_write_20] at hF
    refine st_iload_1 h dX11_write_20 ?_
    refine st_aload_0 h dX11_write_21 ?_
    obtain ⟨x1, hx1, hF⟩ := bI hF
    refine gX11_11 h fl_X11_83 dX11_write_22 hx1 ?_
    obtain ⟨g1, hF⟩ := gI hF
    refine gX9_0 h fl_X11_122 dX11_write_25 g1 ?_
    refine st_icmp_ge (t := 85) h dX11_write_28 (by decide) (fun q1 => ?_) (fun q1 => ?_)
    · have hF := pI q1 hF
      refine st_aload_0 h dX11_write_85 ?_
      refine st_aload_0 h dX11_write_86 ?_
      refine gX11_15 h fl_X11_310 dX11_write_87 (congrArg Prod.fst kC_0) ?_
      obtain ⟨x2, hx2, hF⟩ := bI hF
      refine st_cVi (vs := [.int (σ.1 0 15)]) (st := []) h (w_X11_answer hx2) mi_X11_answer mv_X11_answer ml_X11_125 dX11_write_90 kC_0 rfl ⟨Nat.le_of_ble_eq_true rfl, Nat.le_of_ble_eq_true rfl⟩ (Nat.le_of_ble_eq_true rfl) rfl ?_
      cases hF
      exact st_iret h hr dX11_write_93
    · have hF := qI q1 hF
      refine st_iload_1 h dX11_write_31 ?_
      refine st_if_le (t := 41) h dX11_write_32 (by decide) (fun q2 => ?_) (fun q2 => ?_)
      · have hF := pI q2 hF
        exact st_sub (ls_s (ls_s (ls_n ls_e))) (w_X11_write_41 h hr ih σ i1 z hF)
      · have hF := qI q2 hF
        refine st_aload_0 h dX11_write_35 ?_
        refine st_bipush (v := 44) h dX11_write_36 (by decide) ?_
        obtain ⟨x3, hx3, hF⟩ := bI hF
        refine st_cVv (vs := [.int 44]) (st := []) h (w_X11_putWritten hx3) mi_X11_putWritten mv_X11_putWritten ml_X11_313 dX11_write_38 kC_0 rfl ⟨Nat.le_of_ble_eq_true rfl, Nat.le_of_ble_eq_true rfl⟩ (Nat.le_of_ble_eq_true rfl) rfl ?_
        exact st_sub (ls_s (ls_s (ls_n ls_e))) (w_X11_write_41 h hr ih x3 i1 z hF)
set_option maxRecDepth 100000 in
set_option maxHeartbeats 4000000 in
theorem w_X11_write {l : Launch} {G : Gv} {σ : Sto} {z : (Int32 × Sto)} (hF : F_X11_write σ  = some z) : Con l yX11_write cX11_write 3 (some .int) 2 G shC νC [.ref 0] (ovC σ) (some (.int z.1)) (ovC z.2) := by
  rw [F_X11_write] at hF
  refine Con_enter (own := RX11) 2 (lv := [some (.ref 0), none, none]) mi_X11_write.2.2.2 rfl (Nat.le_of_ble_eq_true rfl) rfl (fun h hr hin => ?_)
  refine st_aload_0 h dX11_write_0 ?_
  refine gX11_13 h fl_X11_131 dX11_write_1 (congrArg Prod.fst kC_0) ?_
  refine st_if_ne (t := 13) h dX11_write_4 (by decide) (fun q1 => ?_) (fun q1 => ?_)
  · have hF := qI q1 hF
    refine st_aload_0 h dX11_write_13 ?_
    refine st_ic_0 h dX11_write_14 ?_
    obtain ⟨s1, hs1, hF⟩ := swI hF
    refine pX11_15 h fl_X11_310 dX11_write_15 (congrArg Prod.fst kC_0) hs1 ?_
    refine st_ic_0 h dX11_write_18 ?_
    refine st_istore_1 h dX11_write_19 ?_
    exact st_sub (ls_s (ls_s (ls_n ls_e))) (w_X11_write_20 h hr FU s1 0 z hF)
  · have hF := pI q1 hF
    refine st_aload_0 h dX11_write_7 ?_
    refine st_ic_1 h dX11_write_8 ?_
    obtain ⟨x1, hx1, hF⟩ := bI hF
    refine st_cVi (vs := [.int 1]) (st := []) h (w_X11_refuse hx1) mi_X11_refuse mv_X11_refuse ml_X11_99 dX11_write_9 kC_0 rfl ⟨Nat.le_of_ble_eq_true rfl, Nat.le_of_ble_eq_true rfl⟩ (Nat.le_of_ble_eq_true rfl) rfl ?_
    cases hF
    exact st_iret h hr dX11_write_12
set_option maxRecDepth 100000 in
set_option maxHeartbeats 4000000 in
theorem w_X5_push {l : Launch} {G : Gv} {σ : Sto} {a1 : Nat} {z : Sto} (hF : F_X5_push σ a1 = some z) : Con l yX5_push cX5_push 2 none 2 G shC νC [.ref 10, .ref a1] (ovC σ) none (ovC z) := by
  rw [F_X5_push] at hF
  refine Con_enter (own := RX5) 0 (lv := [some (.ref 10), some (.ref a1)]) mi_X5_push.2.2.2 rfl (Nat.le_of_ble_eq_true rfl) rfl (fun h hr hin => ?_)
  refine st_aload_0 h dX5_push_0 ?_
  refine gX5_0 h fl_X5_11 dX5_push_1 (congrArg Prod.fst kC_10) ?_
  refine st_aload_0 h dX5_push_4 ?_
  refine gX5_1 h fl_X5_20 dX5_push_5 (congrArg Prod.fst kC_10) ?_
  obtain ⟨g1, hF⟩ := gI hF
  refine aaY h dX5_push_8 g1 ?_
  refine st_aload_1 h dX5_push_9 ?_
  obtain ⟨x1, hx1, hF⟩ := bI hF
  refine st_cVv (vs := [.ref a1]) (st := []) h (w_X10_copy hx1) mi_X10_copy mv_X10_copy ml_X5_23 dX5_push_10 (shC_e (congrArg Prod.fst (sk_ring _ (ib_lt g1)))) rfl ⟨Nat.le_of_ble_eq_true rfl, Nat.le_of_ble_eq_true rfl⟩ (Nat.le_of_ble_eq_true rfl) rfl ?_
  refine st_aload_0 h dX5_push_13 ?_
  refine st_aload_0 h dX5_push_14 ?_
  refine gX5_1 h fl_X5_20 dX5_push_15 (congrArg Prod.fst kC_10) ?_
  refine st_ic_1 h dX5_push_18 ?_
  refine st_iadd h dX5_push_19 ?_
  refine st_bipush (v := 10) h dX5_push_20 (by decide) ?_
  refine st_irem h (by decide) dX5_push_22 ?_
  obtain ⟨s1, hs1, hF⟩ := swI hF
  refine pX5_1 h fl_X5_20 dX5_push_23 (congrArg Prod.fst kC_10) hs1 ?_
  refine st_aload_0 h dX5_push_26 ?_
  refine st_aload_0 h dX5_push_27 ?_
  refine gX5_2 h fl_X5_16 dX5_push_28 (congrArg Prod.fst kC_10) ?_
  refine st_ic_1 h dX5_push_31 ?_
  refine st_iadd h dX5_push_32 ?_
  refine st_bipush (v := 10) h dX5_push_33 (by decide) ?_
  refine st_min h ml_X5_27 mt_min.1 mt_min.2.1 mt_min.2.2 dX5_push_35 ⟨Nat.le_of_ble_eq_true rfl, Nat.le_of_ble_eq_true rfl⟩ (Nat.le_of_ble_eq_true rfl) ⟨Nat.zero_le _, Nat.zero_le _⟩ ?_
  obtain ⟨s2, hs2, hF⟩ := swI hF
  refine pX5_2 h fl_X5_16 dX5_push_38 (congrArg Prod.fst kC_10) hs2 ?_
  cases hF
  exact st_vret h hr dX5_push_41
set_option maxRecDepth 100000 in
set_option maxHeartbeats 4000000 in
theorem w_X11_forgetFresh {l : Launch} {G : Gv} {σ : Sto} {z : Sto} (hF : F_X11_forgetFresh σ  = some z) : Con l yX11_forgetFresh cX11_forgetFresh 1 none 2 G shC νC [.ref 0] (ovC σ) none (ovC z) := by
  rw [F_X11_forgetFresh] at hF
  refine Con_enter (own := RX11) 0 (lv := [some (.ref 0)]) mi_X11_forgetFresh.2.2.2 rfl (Nat.le_of_ble_eq_true rfl) rfl (fun h hr hin => ?_)
  refine st_aload_0 h dX11_forgetFresh_0 ?_
  refine gX11_8 h fl_X11_66 dX11_forgetFresh_1 (congrArg Prod.fst kC_0) ?_
  obtain ⟨x1, hx1, hF⟩ := bI hF
  refine st_cVv (vs := []) (st := []) h (w_X4_forgetFresh hx1) mi_X4_forgetFresh mv_X4_forgetFresh ml_X11_381 dX11_forgetFresh_4 kC_84 rfl ⟨Nat.le_of_ble_eq_true rfl, Nat.le_of_ble_eq_true rfl⟩ (Nat.le_of_ble_eq_true rfl) rfl ?_
  cases hF
  exact st_vret h hr dX11_forgetFresh_7
set_option maxRecDepth 100000 in
set_option maxHeartbeats 4000000 in
theorem w_X11_price {l : Launch} {G : Gv} {σ : Sto} {i1 : Int32} {i2 : Int32} {z : (Int32 × Sto)} (hF : F_X11_price σ i1 i2 = some z) : Con l yX11_price cX11_price 4 (some .int) 3 G shC νC [.ref 0, .int i1, .int i2] (ovC σ) (some (.int z.1)) (ovC z.2) := by
  rw [F_X11_price] at hF
  refine Con_enter (own := RX11) 1 (lv := [some (.ref 0), some (.int i1), some (.int i2), none]) mi_X11_price.2.2.2 rfl (Nat.le_of_ble_eq_true rfl) rfl (fun h hr hin => ?_)
  refine st_aload_0 h dX11_price_0 ?_
  refine st_iload_1 h dX11_price_1 ?_
  obtain ⟨x1, hx1, hF⟩ := bI hF
  refine st_cVi (vs := [.int i1]) (st := []) h (w_X11_noService hx1) mi_X11_noService mv_X11_noService ml_X11_176 dX11_price_2 kC_0 rfl ⟨Nat.le_of_ble_eq_true rfl, Nat.le_of_ble_eq_true rfl⟩ (Nat.le_of_ble_eq_true rfl) rfl ?_
  refine st_if_eq (t := 14) h dX11_price_5 (by decide) (fun q1 => ?_) (fun q1 => ?_)
  · have hF := pI q1 hF
    refine st_iload_2 h dX11_price_14 ?_
    obtain ⟨x2, hx2, hF⟩ := bI hF
    refine st_cSi (vs := [.int i2]) (st := []) h (w_X11_noPrice hx2) mi_X11_noPrice ms_X11_noPrice ml_X11_275 dX11_price_15 rfl ⟨Nat.le_of_ble_eq_true rfl, Nat.le_of_ble_eq_true rfl⟩ (Nat.le_of_ble_eq_true rfl) rfl ?_
    refine st_if_eq (t := 27) h dX11_price_18 (by decide) (fun q2 => ?_) (fun q2 => ?_)
    · have hF := pI q2 hF
      refine st_aload_0 h dX11_price_27 ?_
      refine gX11_4 h fl_X11_37 dX11_price_28 (congrArg Prod.fst kC_0) ?_
      refine st_aload_0 h dX11_price_31 ?_
      refine gX11_2 h fl_X11_23 dX11_price_32 (congrArg Prod.fst kC_0) ?_
      obtain ⟨x3, hx3, hF⟩ := bI hF
      refine st_cVv (vs := [.ref 3]) (st := []) h (w_X5_push hx3) mi_X5_push mv_X5_push ml_X11_319 dX11_price_35 kC_10 rfl ⟨Nat.le_of_ble_eq_true rfl, Nat.le_of_ble_eq_true rfl⟩ (Nat.le_of_ble_eq_true rfl) rfl ?_
      refine st_aload_0 h dX11_price_38 ?_
      refine gX11_2 h fl_X11_23 dX11_price_39 (congrArg Prod.fst kC_0) ?_
      refine gX10_3 h fl_X11_173 dX11_price_42 (congrArg Prod.fst kC_3) ?_
      refine st_iload_1 h dX11_price_45 ?_
      obtain ⟨g1, hF⟩ := gI hF
      refine iaC h dX11_price_46 (sk_10_3 (congrArg Prod.fst kC_3)) g1 ?_
      refine st_istore_3 h dX11_price_47 ?_
      refine st_aload_0 h dX11_price_48 ?_
      refine gX11_2 h fl_X11_23 dX11_price_49 (congrArg Prod.fst kC_0) ?_
      refine gX10_3 h fl_X11_173 dX11_price_52 (congrArg Prod.fst kC_3) ?_
      refine st_iload_1 h dX11_price_55 ?_
      refine st_iload_2 h dX11_price_56 ?_
      obtain ⟨s1, hs1, hF⟩ := swI hF
      refine isC h dX11_price_57 (sk_10_3 (congrArg Prod.fst kC_3)) g1 hs1 ?_
      refine st_aload_0 h dX11_price_58 ?_
      obtain ⟨x4, hx4, hF⟩ := bI hF
      refine st_cVv (vs := []) (st := []) h (w_X11_forgetFresh hx4) mi_X11_forgetFresh mv_X11_forgetFresh ml_X11_323 dX11_price_59 kC_0 rfl ⟨Nat.le_of_ble_eq_true rfl, Nat.le_of_ble_eq_true rfl⟩ (Nat.le_of_ble_eq_true rfl) rfl ?_
      refine st_aload_0 h dX11_price_62 ?_
      refine st_iload_3 h dX11_price_63 ?_
      obtain ⟨x5, hx5, hF⟩ := bI hF
      refine st_cVi (vs := [.int (x3.1 (3 + 2) (ix i1))]) (st := []) h (w_X11_answer hx5) mi_X11_answer mv_X11_answer ml_X11_125 dX11_price_64 kC_0 rfl ⟨Nat.le_of_ble_eq_true rfl, Nat.le_of_ble_eq_true rfl⟩ (Nat.le_of_ble_eq_true rfl) rfl ?_
      cases hF
      exact st_iret h hr dX11_price_67
    · have hF := qI q2 hF
      refine st_aload_0 h dX11_price_21 ?_
      refine st_ic_2 h dX11_price_22 ?_
      obtain ⟨x6, hx6, hF⟩ := bI hF
      refine st_cVi (vs := [.int 2]) (st := []) h (w_X11_refuse hx6) mi_X11_refuse mv_X11_refuse ml_X11_99 dX11_price_23 kC_0 rfl ⟨Nat.le_of_ble_eq_true rfl, Nat.le_of_ble_eq_true rfl⟩ (Nat.le_of_ble_eq_true rfl) rfl ?_
      cases hF
      exact st_iret h hr dX11_price_26
  · have hF := qI q1 hF
    refine st_aload_0 h dX11_price_8 ?_
    refine st_ic_1 h dX11_price_9 ?_
    obtain ⟨x7, hx7, hF⟩ := bI hF
    refine st_cVi (vs := [.int 1]) (st := []) h (w_X11_refuse hx7) mi_X11_refuse mv_X11_refuse ml_X11_99 dX11_price_10 kC_0 rfl ⟨Nat.le_of_ble_eq_true rfl, Nat.le_of_ble_eq_true rfl⟩ (Nat.le_of_ble_eq_true rfl) rfl ?_
    cases hF
    exact st_iret h hr dX11_price_13
set_option maxRecDepth 100000 in
set_option maxHeartbeats 4000000 in
theorem w_X11_lay_50 {p : Program} {l : Launch} {e : Env} {s : State} {m : MethodId} {args : Array Value} {below : List Frame} {meth : Method} {c : Code} {G : Gv} (h : Cx p s m args meth c G cX11_lay 3 RX11) (hr : meth.sig.returnType = (some .int)) : ∀ (σ : Sto) (e0 : Nat) (z : (Int32 × Sto)), F_X11_lay_50 σ e0 = some z → AW p l e (rmD 12 0 0) s m args below meth c (MQ below (QcR G shC νC (some (.int z.1)) (ovC z.2)) args s 0 0 (gA G)) 0 0 G 3 50 [some (.ref 0), none, none] [.ref e0] shC νC (ovC σ) := by
  intro σ e0 z hF
  rw [F_X11_lay_50] at hF
  refine st_astore_2 h dX11_lay_50 ?_
  refine st_aload_0 h dX11_lay_51 ?_
  refine gX11_4 h fl_X11_37 dX11_lay_52 (congrArg Prod.fst kC_0) ?_
  refine st_aload_0 h dX11_lay_55 ?_
  refine gX11_2 h fl_X11_23 dX11_lay_56 (congrArg Prod.fst kC_0) ?_
  obtain ⟨x1, hx1, hF⟩ := bI hF
  refine st_cVv (vs := [.ref 3]) (st := []) h (w_X5_push hx1) mi_X5_push mv_X5_push ml_X11_319 dX11_lay_59 kC_10 rfl ⟨Nat.le_of_ble_eq_true rfl, Nat.le_of_ble_eq_true rfl⟩ (Nat.le_of_ble_eq_true rfl) rfl ?_
  refine st_aload_2 h dX11_lay_62 ?_
  obtain ⟨g1, hF⟩ := gI hF
  refine gX7_3 h fl_X11_290 dX11_lay_63 g1 ?_
  refine st_ic_0 h dX11_lay_66 ?_
  refine st_aload_0 h dX11_lay_67 ?_
  refine gX11_2 h fl_X11_23 dX11_lay_68 (congrArg Prod.fst kC_0) ?_
  refine gX10_3 h fl_X11_173 dX11_lay_71 (congrArg Prod.fst kC_3) ?_
  refine st_ic_0 h dX11_lay_74 ?_
  refine st_ic_4 h dX11_lay_75 ?_
  obtain ⟨s1, hs1, hF⟩ := swI hF
  refine cpC h ml_X11_326 dX11_lay_76 (sk_7_3 g1) (sk_10_3 (congrArg Prod.fst kC_3)) (by decide) (by decide) (by decide) (by decide) (by decide) ⟨Nat.le_of_ble_eq_true rfl, Nat.le_of_ble_eq_true rfl⟩ hs1 ?_
  refine st_aload_0 h dX11_lay_79 ?_
  obtain ⟨x2, hx2, hF⟩ := bI hF
  refine st_cVv (vs := []) (st := []) h (w_X11_forgetFresh hx2) mi_X11_forgetFresh mv_X11_forgetFresh ml_X11_323 dX11_lay_80 kC_0 rfl ⟨Nat.le_of_ble_eq_true rfl, Nat.le_of_ble_eq_true rfl⟩ (Nat.le_of_ble_eq_true rfl) rfl ?_
  refine st_aload_0 h dX11_lay_83 ?_
  refine st_aload_0 h dX11_lay_84 ?_
  refine gX11_2 h fl_X11_23 dX11_lay_85 (congrArg Prod.fst kC_0) ?_
  refine st_aload_0 h dX11_lay_88 ?_
  obtain ⟨x3, hx3, hF⟩ := bI hF
  refine gX11_11 h fl_X11_83 dX11_lay_89 hx3 ?_
  obtain ⟨x4, hx4, hF⟩ := bI hF
  refine st_cVi (vs := [.ref x3]) (st := [.ref 0]) h (w_X10_spent hx4) mi_X10_spent mv_X10_spent ml_X11_159 dX11_lay_92 kC_3 rfl ⟨Nat.le_of_ble_eq_true rfl, Nat.le_of_ble_eq_true rfl⟩ (Nat.le_of_ble_eq_true rfl) rfl ?_
  obtain ⟨x5, hx5, hF⟩ := bI hF
  refine st_cVi (vs := [.int x4]) (st := []) h (w_X11_answer hx5) mi_X11_answer mv_X11_answer ml_X11_125 dX11_lay_95 kC_0 rfl ⟨Nat.le_of_ble_eq_true rfl, Nat.le_of_ble_eq_true rfl⟩ (Nat.le_of_ble_eq_true rfl) rfl ?_
  cases hF
  exact st_iret h hr dX11_lay_98
set_option maxRecDepth 100000 in
set_option maxHeartbeats 4000000 in
theorem w_X11_lay {l : Launch} {G : Gv} {σ : Sto} {i1 : Int32} {z : (Int32 × Sto)} (hF : F_X11_lay σ i1 = some z) : Con l yX11_lay cX11_lay 3 (some .int) 12 G shC νC [.ref 0, .int i1] (ovC σ) (some (.int z.1)) (ovC z.2) := by
  rw [F_X11_lay] at hF
  refine Con_enter (own := RX11) 1 (lv := [some (.ref 0), some (.int i1), none]) mi_X11_lay.2.2.2 rfl (Nat.le_of_ble_eq_true rfl) rfl (fun h hr hin => ?_)
  refine st_aload_0 h dX11_lay_0 ?_
  refine gX11_13 h fl_X11_131 dX11_lay_1 (congrArg Prod.fst kC_0) ?_
  refine st_if_ne (t := 13) h dX11_lay_4 (by decide) (fun q1 => ?_) (fun q1 => ?_)
  · have hF := qI q1 hF
    refine st_iload_1 h dX11_lay_13 ?_
    refine st_if_eq (t := 35) h dX11_lay_14 (by decide) (fun q2 => ?_) (fun q2 => ?_)
    · have hF := pI q2 hF
      refine st_aload_0 h dX11_lay_35 ?_
      refine gX11_7 h fl_X11_59 dX11_lay_36 (congrArg Prod.fst kC_0) ?_
      refine st_aload_0 h dX11_lay_39 ?_
      obtain ⟨x1, hx1, hF⟩ := bI hF
      refine gX11_11 h fl_X11_83 dX11_lay_40 hx1 ?_
      refine st_aload_0 h dX11_lay_43 ?_
      refine gX11_2 h fl_X11_23 dX11_lay_44 (congrArg Prod.fst kC_0) ?_
      obtain ⟨x2, hx2, hF⟩ := bI hF
      refine st_cVr (vs := [.ref x1, .ref 3]) (st := []) h (w_X2_findBest hx2) mi_X2_findBest mv_X2_findBest ml_X11_220 dX11_lay_47 kC_75 rfl ⟨Nat.le_of_ble_eq_true rfl, Nat.le_of_ble_eq_true rfl⟩ (Nat.le_of_ble_eq_true rfl) rfl ?_
      exact st_sub (ls_s (ls_n (ls_n ls_e))) (w_X11_lay_50 h hr x2.2 x2.1 z hF)
    · have hF := qI q2 hF
      refine st_aload_0 h dX11_lay_17 ?_
      refine gX11_7 h fl_X11_59 dX11_lay_18 (congrArg Prod.fst kC_0) ?_
      refine st_aload_0 h dX11_lay_21 ?_
      obtain ⟨x3, hx3, hF⟩ := bI hF
      refine gX11_11 h fl_X11_83 dX11_lay_22 hx3 ?_
      refine st_aload_0 h dX11_lay_25 ?_
      refine gX11_2 h fl_X11_23 dX11_lay_26 (congrArg Prod.fst kC_0) ?_
      obtain ⟨x4, hx4, hF⟩ := bI hF
      refine st_cVr (vs := [.ref x3, .ref 3]) (st := []) h (w_X2_findFair hx4) mi_X2_findFair mv_X2_findFair ml_X11_232 dX11_lay_29 kC_75 rfl ⟨Nat.le_of_ble_eq_true rfl, Nat.le_of_ble_eq_true rfl⟩ (Nat.le_of_ble_eq_true rfl) rfl ?_
      refine st_goto (t := 50) h dX11_lay_32 (by decide) ?_
      exact st_sub (ls_s (ls_n (ls_n ls_e))) (w_X11_lay_50 h hr x4.2 x4.1 z hF)
  · have hF := pI q1 hF
    refine st_aload_0 h dX11_lay_7 ?_
    refine st_ic_1 h dX11_lay_8 ?_
    obtain ⟨x5, hx5, hF⟩ := bI hF
    refine st_cVi (vs := [.int 1]) (st := []) h (w_X11_refuse hx5) mi_X11_refuse mv_X11_refuse ml_X11_99 dX11_lay_9 kC_0 rfl ⟨Nat.le_of_ble_eq_true rfl, Nat.le_of_ble_eq_true rfl⟩ (Nat.le_of_ble_eq_true rfl) rfl ?_
    cases hF
    exact st_iret h hr dX11_lay_12
set_option maxRecDepth 100000 in
set_option maxHeartbeats 4000000 in
theorem w_X11_quality_24 {p : Program} {l : Launch} {e : Env} {s : State} {m : MethodId} {args : Array Value} {below : List Frame} {meth : Method} {c : Code} {G : Gv} (h : Cx p s m args meth c G cX11_quality 4 RX11) (hr : meth.sig.returnType = (some .int)) : ∀ (σ : Sto) (z : (Int32 × Sto)), F_X11_quality_24 σ  = some z → AW p l e (rmD 4 0 0) s m args below meth c (MQ below (QcR G shC νC (some (.int z.1)) (ovC z.2)) args s 0 0 (gA G)) 0 0 G 4 24 [some (.ref 0), none, none, none] [] shC νC (ovC σ) := by
  intro σ z hF
  rw [F_X11_quality_24] at hF
  refine st_aload_0 h dX11_quality_24 ?_
  refine st_ic_2 h dX11_quality_25 ?_
  obtain ⟨x1, hx1, hF⟩ := bI hF
  refine st_cVi (vs := [.int 2]) (st := []) h (w_X11_refuse hx1) mi_X11_refuse mv_X11_refuse ml_X11_99 dX11_quality_26 kC_0 rfl ⟨Nat.le_of_ble_eq_true rfl, Nat.le_of_ble_eq_true rfl⟩ (Nat.le_of_ble_eq_true rfl) rfl ?_
  cases hF
  exact st_iret h hr dX11_quality_29
set_option maxRecDepth 100000 in
set_option maxHeartbeats 4000000 in
theorem w_X11_quality {l : Launch} {G : Gv} {σ : Sto} {i1 : Int32} {i2 : Int32} {z : (Int32 × Sto)} (hF : F_X11_quality σ i1 i2 = some z) : Con l yX11_quality cX11_quality 4 (some .int) 4 G shC νC [.ref 0, .int i1, .int i2] (ovC σ) (some (.int z.1)) (ovC z.2) := by
  rw [F_X11_quality] at hF
  refine Con_enter (own := RX11) 1 (lv := [some (.ref 0), some (.int i1), some (.int i2), none]) mi_X11_quality.2.2.2 rfl (Nat.le_of_ble_eq_true rfl) rfl (fun h hr hin => ?_)
  refine st_aload_0 h dX11_quality_0 ?_
  refine st_iload_1 h dX11_quality_1 ?_
  obtain ⟨x1, hx1, hF⟩ := bI hF
  refine st_cVi (vs := [.int i1]) (st := []) h (w_X11_noService hx1) mi_X11_noService mv_X11_noService ml_X11_176 dX11_quality_2 kC_0 rfl ⟨Nat.le_of_ble_eq_true rfl, Nat.le_of_ble_eq_true rfl⟩ (Nat.le_of_ble_eq_true rfl) rfl ?_
  refine st_if_eq (t := 14) h dX11_quality_5 (by decide) (fun q1 => ?_) (fun q1 => ?_)
  · have hF := pI q1 hF
    refine st_iload_2 h dX11_quality_14 ?_
    refine st_if_lt (t := 24) h dX11_quality_15 (by decide) (fun q2 => ?_) (fun q2 => ?_)
    · have hF := pI q2 hF
      exact st_sub (ls_s (ls_n (ls_n (ls_n ls_e)))) (w_X11_quality_24 h hr σ  z hF)
    · have hF := qI q2 hF
      refine st_iload_2 h dX11_quality_18 ?_
      refine st_bipush (v := 99) h dX11_quality_19 (by decide) ?_
      refine st_icmp_le (t := 30) h dX11_quality_21 (by decide) (fun q3 => ?_) (fun q3 => ?_)
      · have hF := pI q3 hF
        refine st_aload_0 h dX11_quality_30 ?_
        refine gX11_4 h fl_X11_37 dX11_quality_31 (congrArg Prod.fst kC_0) ?_
        refine st_aload_0 h dX11_quality_34 ?_
        refine gX11_2 h fl_X11_23 dX11_quality_35 (congrArg Prod.fst kC_0) ?_
        obtain ⟨x2, hx2, hF⟩ := bI hF
        refine st_cVv (vs := [.ref 3]) (st := []) h (w_X5_push hx2) mi_X5_push mv_X5_push ml_X11_319 dX11_quality_38 kC_10 rfl ⟨Nat.le_of_ble_eq_true rfl, Nat.le_of_ble_eq_true rfl⟩ (Nat.le_of_ble_eq_true rfl) rfl ?_
        refine st_aload_0 h dX11_quality_41 ?_
        refine gX11_2 h fl_X11_23 dX11_quality_42 (congrArg Prod.fst kC_0) ?_
        refine gX10_4 h fl_X11_184 dX11_quality_45 (congrArg Prod.fst kC_3) ?_
        refine st_iload_1 h dX11_quality_48 ?_
        obtain ⟨g1, hF⟩ := gI hF
        refine iaC h dX11_quality_49 (sk_10_4 (congrArg Prod.fst kC_3)) g1 ?_
        refine st_istore_3 h dX11_quality_50 ?_
        refine st_aload_0 h dX11_quality_51 ?_
        refine gX11_2 h fl_X11_23 dX11_quality_52 (congrArg Prod.fst kC_0) ?_
        refine gX10_4 h fl_X11_184 dX11_quality_55 (congrArg Prod.fst kC_3) ?_
        refine st_iload_1 h dX11_quality_58 ?_
        refine st_iload_2 h dX11_quality_59 ?_
        obtain ⟨s1, hs1, hF⟩ := swI hF
        refine isC h dX11_quality_60 (sk_10_4 (congrArg Prod.fst kC_3)) g1 hs1 ?_
        refine st_aload_0 h dX11_quality_61 ?_
        obtain ⟨x3, hx3, hF⟩ := bI hF
        refine st_cVv (vs := []) (st := []) h (w_X11_forgetAll hx3) mi_X11_forgetAll mv_X11_forgetAll ml_X11_332 dX11_quality_62 kC_0 rfl ⟨Nat.le_of_ble_eq_true rfl, Nat.le_of_ble_eq_true rfl⟩ (Nat.le_of_ble_eq_true rfl) rfl ?_
        refine st_aload_0 h dX11_quality_65 ?_
        refine st_iload_3 h dX11_quality_66 ?_
        obtain ⟨x4, hx4, hF⟩ := bI hF
        refine st_cVi (vs := [.int (x2.1 (3 + 3) (ix i1))]) (st := []) h (w_X11_answer hx4) mi_X11_answer mv_X11_answer ml_X11_125 dX11_quality_67 kC_0 rfl ⟨Nat.le_of_ble_eq_true rfl, Nat.le_of_ble_eq_true rfl⟩ (Nat.le_of_ble_eq_true rfl) rfl ?_
        cases hF
        exact st_iret h hr dX11_quality_70
      · have hF := qI q3 hF
        exact st_sub (ls_s (ls_n (ls_n (ls_n ls_e)))) (w_X11_quality_24 h hr σ  z hF)
  · have hF := qI q1 hF
    refine st_aload_0 h dX11_quality_8 ?_
    refine st_ic_1 h dX11_quality_9 ?_
    obtain ⟨x5, hx5, hF⟩ := bI hF
    refine st_cVi (vs := [.int 1]) (st := []) h (w_X11_refuse hx5) mi_X11_refuse mv_X11_refuse ml_X11_99 dX11_quality_10 kC_0 rfl ⟨Nat.le_of_ble_eq_true rfl, Nat.le_of_ble_eq_true rfl⟩ (Nat.le_of_ble_eq_true rfl) rfl ?_
    cases hF
    exact st_iret h hr dX11_quality_13
set_option maxRecDepth 100000 in
set_option maxHeartbeats 4000000 in
theorem w_X11_become_16 {p : Program} {l : Launch} {e : Env} {s : State} {m : MethodId} {args : Array Value} {below : List Frame} {meth : Method} {c : Code} {G : Gv} (h : Cx p s m args meth c G cX11_become 4 RX11) (hr : meth.sig.returnType = (some .int)) : ∀ (σ : Sto) (z : (Int32 × Sto)), F_X11_become_16 σ  = some z → AW p l e (rmD 4 0 0) s m args below meth c (MQ below (QcR G shC νC (some (.int z.1)) (ovC z.2)) args s 0 0 (gA G)) 0 0 G 4 16 [some (.ref 0), none, none, none] [] shC νC (ovC σ) := by
  intro σ z hF
  rw [F_X11_become_16] at hF
  refine st_aload_0 h dX11_become_16 ?_
  refine st_ic_1 h dX11_become_17 ?_
  obtain ⟨x1, hx1, hF⟩ := bI hF
  refine st_cVi (vs := [.int 1]) (st := []) h (w_X11_refuse hx1) mi_X11_refuse mv_X11_refuse ml_X11_99 dX11_become_18 kC_0 rfl ⟨Nat.le_of_ble_eq_true rfl, Nat.le_of_ble_eq_true rfl⟩ (Nat.le_of_ble_eq_true rfl) rfl ?_
  cases hF
  exact st_iret h hr dX11_become_21
set_option maxRecDepth 100000 in
set_option maxHeartbeats 4000000 in
theorem w_X11_become_34 {p : Program} {l : Launch} {e : Env} {s : State} {m : MethodId} {args : Array Value} {below : List Frame} {meth : Method} {c : Code} {G : Gv} (h : Cx p s m args meth c G cX11_become 4 RX11) (hr : meth.sig.returnType = (some .int)) : ∀ (σ : Sto) (z : (Int32 × Sto)), F_X11_become_34 σ  = some z → AW p l e (rmD 4 0 0) s m args below meth c (MQ below (QcR G shC νC (some (.int z.1)) (ovC z.2)) args s 0 0 (gA G)) 0 0 G 4 34 [some (.ref 0), none, none, none] [] shC νC (ovC σ) := by
  intro σ z hF
  rw [F_X11_become_34] at hF
  refine st_aload_0 h dX11_become_34 ?_
  refine st_ic_2 h dX11_become_35 ?_
  obtain ⟨x1, hx1, hF⟩ := bI hF
  refine st_cVi (vs := [.int 2]) (st := []) h (w_X11_refuse hx1) mi_X11_refuse mv_X11_refuse ml_X11_99 dX11_become_36 kC_0 rfl ⟨Nat.le_of_ble_eq_true rfl, Nat.le_of_ble_eq_true rfl⟩ (Nat.le_of_ble_eq_true rfl) rfl ?_
  cases hF
  exact st_iret h hr dX11_become_39
set_option maxRecDepth 100000 in
set_option maxHeartbeats 4000000 in
theorem w_X11_become {l : Launch} {G : Gv} {σ : Sto} {i1 : Int32} {i2 : Int32} {z : (Int32 × Sto)} (hF : F_X11_become σ i1 i2 = some z) : Con l yX11_become cX11_become 4 (some .int) 4 G shC νC [.ref 0, .int i1, .int i2] (ovC σ) (some (.int z.1)) (ovC z.2) := by
  rw [F_X11_become] at hF
  refine Con_enter (own := RX11) 1 (lv := [some (.ref 0), some (.int i1), some (.int i2), none]) mi_X11_become.2.2.2 rfl (Nat.le_of_ble_eq_true rfl) rfl (fun h hr hin => ?_)
  refine st_aload_0 h dX11_become_0 ?_
  refine gX11_13 h fl_X11_131 dX11_become_1 (congrArg Prod.fst kC_0) ?_
  refine st_if_eq (t := 16) h dX11_become_4 (by decide) (fun q1 => ?_) (fun q1 => ?_)
  · have hF := pI q1 hF
    exact st_sub (ls_s (ls_n (ls_n (ls_n ls_e)))) (w_X11_become_16 h hr σ  z hF)
  · have hF := qI q1 hF
    refine st_iload_1 h dX11_become_7 ?_
    refine st_if_lt (t := 16) h dX11_become_8 (by decide) (fun q2 => ?_) (fun q2 => ?_)
    · have hF := pI q2 hF
      exact st_sub (ls_s (ls_n (ls_n (ls_n ls_e)))) (w_X11_become_16 h hr σ  z hF)
    · have hF := qI q2 hF
      refine st_iload_1 h dX11_become_11 ?_
      refine st_ic_4 h dX11_become_12 ?_
      refine st_icmp_lt (t := 22) h dX11_become_13 (by decide) (fun q3 => ?_) (fun q3 => ?_)
      · have hF := pI q3 hF
        refine st_iload_2 h dX11_become_22 ?_
        refine st_if_lt (t := 34) h dX11_become_23 (by decide) (fun q4 => ?_) (fun q4 => ?_)
        · have hF := pI q4 hF
          exact st_sub (ls_s (ls_n (ls_n (ls_n ls_e)))) (w_X11_become_34 h hr σ  z hF)
        · have hF := qI q4 hF
          refine st_iload_2 h dX11_become_26 ?_
          refine st_iload_1 h dX11_become_27 ?_
          obtain ⟨x1, hx1, hF⟩ := bI hF
          refine st_cSi (vs := [.int i1]) (st := [.int i2]) h (w_X9_mostOfRule hx1) mi_X9_mostOfRule ms_X9_mostOfRule ml_X11_335 dX11_become_28 rfl ⟨Nat.le_of_ble_eq_true rfl, Nat.le_of_ble_eq_true rfl⟩ (Nat.le_of_ble_eq_true rfl) rfl ?_
          refine st_icmp_le (t := 40) h dX11_become_31 (by decide) (fun q5 => ?_) (fun q5 => ?_)
          · have hF := pI q5 hF
            refine st_aload_0 h dX11_become_40 ?_
            refine gX11_4 h fl_X11_37 dX11_become_41 (congrArg Prod.fst kC_0) ?_
            refine st_aload_0 h dX11_become_44 ?_
            refine gX11_2 h fl_X11_23 dX11_become_45 (congrArg Prod.fst kC_0) ?_
            obtain ⟨x2, hx2, hF⟩ := bI hF
            refine st_cVv (vs := [.ref 3]) (st := []) h (w_X5_push hx2) mi_X5_push mv_X5_push ml_X11_319 dX11_become_48 kC_10 rfl ⟨Nat.le_of_ble_eq_true rfl, Nat.le_of_ble_eq_true rfl⟩ (Nat.le_of_ble_eq_true rfl) rfl ?_
            refine st_aload_0 h dX11_become_51 ?_
            refine gX11_2 h fl_X11_23 dX11_become_52 (congrArg Prod.fst kC_0) ?_
            refine gX10_5 h fl_X11_191 dX11_become_55 (congrArg Prod.fst kC_3) ?_
            refine st_iload_1 h dX11_become_58 ?_
            obtain ⟨g1, hF⟩ := gI hF
            refine iaC h dX11_become_59 (sk_10_5 (congrArg Prod.fst kC_3)) g1 ?_
            refine st_istore_3 h dX11_become_60 ?_
            refine st_aload_0 h dX11_become_61 ?_
            refine gX11_2 h fl_X11_23 dX11_become_62 (congrArg Prod.fst kC_0) ?_
            refine gX10_5 h fl_X11_191 dX11_become_65 (congrArg Prod.fst kC_3) ?_
            refine st_iload_1 h dX11_become_68 ?_
            refine st_iload_2 h dX11_become_69 ?_
            obtain ⟨s1, hs1, hF⟩ := swI hF
            refine isC h dX11_become_70 (sk_10_5 (congrArg Prod.fst kC_3)) g1 hs1 ?_
            refine st_aload_0 h dX11_become_71 ?_
            obtain ⟨x3, hx3, hF⟩ := bI hF
            refine st_cVv (vs := []) (st := []) h (w_X11_forgetAll hx3) mi_X11_forgetAll mv_X11_forgetAll ml_X11_332 dX11_become_72 kC_0 rfl ⟨Nat.le_of_ble_eq_true rfl, Nat.le_of_ble_eq_true rfl⟩ (Nat.le_of_ble_eq_true rfl) rfl ?_
            refine st_aload_0 h dX11_become_75 ?_
            refine st_iload_3 h dX11_become_76 ?_
            obtain ⟨x4, hx4, hF⟩ := bI hF
            refine st_cVi (vs := [.int (x2.1 (3 + 4) (ix i1))]) (st := []) h (w_X11_answer hx4) mi_X11_answer mv_X11_answer ml_X11_125 dX11_become_77 kC_0 rfl ⟨Nat.le_of_ble_eq_true rfl, Nat.le_of_ble_eq_true rfl⟩ (Nat.le_of_ble_eq_true rfl) rfl ?_
            cases hF
            exact st_iret h hr dX11_become_80
          · have hF := qI q5 hF
            exact st_sub (ls_s (ls_n (ls_n (ls_n ls_e)))) (w_X11_become_34 h hr σ  z hF)
      · have hF := qI q3 hF
        exact st_sub (ls_s (ls_n (ls_n (ls_n ls_e)))) (w_X11_become_16 h hr σ  z hF)
set_option maxRecDepth 100000 in
set_option maxHeartbeats 4000000 in
theorem w_X0_enter {l : Launch} {G : Gv} {σ : Sto} {a0 : Nat} {a1 : Nat} {a2 : Nat} {z : Sto} (hF : F_X0_enter σ a0 a1 a2 = some z) : Con l yX0_enter cX0_enter 4 none 5 G shC νC [.ref a0, .ref a1, .ref a2] (ovC σ) none (ovC z) := by
  rw [F_X0_enter] at hF
  refine Con_enter (own := RX0) 1 (lv := [some (.ref a0), some (.ref a1), some (.ref a2), none]) mi_X0_enter.2.2.2 rfl (Nat.le_of_ble_eq_true rfl) rfl (fun h hr hin => ?_)
  refine st_aload_2 h dX0_enter_0 ?_
  obtain ⟨g1, hF⟩ := gI hF
  refine gX10_0 h fl_X0_15 dX0_enter_1 g1 ?_
  refine st_if_lt (t := 16) h dX0_enter_4 (by decide) (fun q1 => ?_) (fun q1 => ?_)
  · have hF := pI q1 hF
    cases hF
    exact st_vret h hr dX0_enter_16
  · have hF := qI q1 hF
    refine st_aload_2 h dX0_enter_7 ?_
    refine gX10_0 h fl_X0_15 dX0_enter_8 g1 ?_
    refine st_bipush (v := 99) h dX0_enter_11 (by decide) ?_
    refine st_icmp_lt (t := 17) h dX0_enter_13 (by decide) (fun q2 => ?_) (fun q2 => ?_)
    · have hF := pI q2 hF
      refine st_aload_2 h dX0_enter_17 ?_
      refine gX10_0 h fl_X0_15 dX0_enter_18 g1 ?_
      refine st_ic_4 h dX0_enter_21 ?_
      refine st_imul h dX0_enter_22 ?_
      refine st_istore_3 h dX0_enter_23 ?_
      refine st_aload_0 h dX0_enter_24 ?_
      obtain ⟨g2, hF⟩ := gI hF
      refine gX0_0 h fl_X0_11 dX0_enter_25 g2 ?_
      refine st_iload_3 h dX0_enter_28 ?_
      refine st_aload_2 h dX0_enter_29 ?_
      refine st_aload_1 h dX0_enter_30 ?_
      obtain ⟨x1, hx1, hF⟩ := bI hF
      refine st_cVi (vs := [.ref a1]) (st := [.int ((σ.1 a2 0) * 4), .ref (a0 + 1)]) h (w_X10_spent hx1) mi_X10_spent mv_X10_spent ml_X0_21 dX0_enter_31 (shC_e g1) rfl ⟨Nat.le_of_ble_eq_true rfl, Nat.le_of_ble_eq_true rfl⟩ (Nat.le_of_ble_eq_true rfl) rfl ?_
      obtain ⟨g3, hF⟩ := gI hF
      obtain ⟨s1, hs1, hF⟩ := swI hF
      refine isC h dX0_enter_34 (sk_0_0 g2) g3 hs1 ?_
      refine st_aload_0 h dX0_enter_35 ?_
      refine gX0_0 h fl_X0_11 dX0_enter_36 g2 ?_
      refine st_iload_3 h dX0_enter_39 ?_
      refine st_ic_1 h dX0_enter_40 ?_
      refine st_iadd h dX0_enter_41 ?_
      refine st_aload_2 h dX0_enter_42 ?_
      refine st_aload_1 h dX0_enter_43 ?_
      obtain ⟨x2, hx2, hF⟩ := bI hF
      refine st_cVi (vs := [.ref a1]) (st := [.int (((σ.1 a2 0) * 4) + 1), .ref (a0 + 1)]) h (w_X10_allowed hx2) mi_X10_allowed mv_X10_allowed ml_X0_25 dX0_enter_44 (shC_e g1) rfl ⟨Nat.le_of_ble_eq_true rfl, Nat.le_of_ble_eq_true rfl⟩ (Nat.le_of_ble_eq_true rfl) rfl ?_
      obtain ⟨g4, hF⟩ := gI hF
      obtain ⟨s2, hs2, hF⟩ := swI hF
      refine isC h dX0_enter_47 (sk_0_0 g2) g4 hs2 ?_
      refine st_aload_0 h dX0_enter_48 ?_
      refine gX0_0 h fl_X0_11 dX0_enter_49 g2 ?_
      refine st_iload_3 h dX0_enter_52 ?_
      refine st_ic_2 h dX0_enter_53 ?_
      refine st_iadd h dX0_enter_54 ?_
      refine st_aload_1 h dX0_enter_55 ?_
      refine st_aload_1 h dX0_enter_56 ?_
      obtain ⟨g5, hF⟩ := gI hF
      refine gX9_7 h fl_X0_28 dX0_enter_57 g5 ?_
      refine st_aload_2 h dX0_enter_60 ?_
      refine gX10_3 h fl_X0_33 dX0_enter_61 g1 ?_
      obtain ⟨x3, hx3, hF⟩ := bI hF
      refine st_cVi (vs := [.ref (a1 + 6), .ref (a2 + 2)]) (st := [.int (((σ.1 a2 0) * 4) + 2), .ref (a0 + 1)]) h (w_X9_together hx3) mi_X9_together mv_X9_together ml_X0_36 dX0_enter_64 (shC_e g5) rfl ⟨Nat.le_of_ble_eq_true rfl, Nat.le_of_ble_eq_true rfl⟩ (Nat.le_of_ble_eq_true rfl) rfl ?_
      obtain ⟨g6, hF⟩ := gI hF
      obtain ⟨s3, hs3, hF⟩ := swI hF
      refine isC h dX0_enter_67 (sk_0_0 g2) g6 hs3 ?_
      refine st_aload_0 h dX0_enter_68 ?_
      refine gX0_0 h fl_X0_11 dX0_enter_69 g2 ?_
      refine st_iload_3 h dX0_enter_72 ?_
      refine st_ic_3 h dX0_enter_73 ?_
      refine st_iadd h dX0_enter_74 ?_
      refine st_aload_1 h dX0_enter_75 ?_
      refine st_aload_1 h dX0_enter_76 ?_
      refine gX9_8 h fl_X0_40 dX0_enter_77 g5 ?_
      refine st_aload_2 h dX0_enter_80 ?_
      refine gX10_3 h fl_X0_33 dX0_enter_81 g1 ?_
      obtain ⟨x4, hx4, hF⟩ := bI hF
      refine st_cVi (vs := [.ref (a1 + 7), .ref (a2 + 2)]) (st := [.int (((σ.1 a2 0) * 4) + 3), .ref (a0 + 1)]) h (w_X9_together hx4) mi_X9_together mv_X9_together ml_X0_36 dX0_enter_84 (shC_e g5) rfl ⟨Nat.le_of_ble_eq_true rfl, Nat.le_of_ble_eq_true rfl⟩ (Nat.le_of_ble_eq_true rfl) rfl ?_
      obtain ⟨g7, hF⟩ := gI hF
      obtain ⟨s4, hs4, hF⟩ := swI hF
      refine isC h dX0_enter_87 (sk_0_0 g2) g7 hs4 ?_
      cases hF
      exact st_vret h hr dX0_enter_88
    · have hF := qI q2 hF
      cases hF
      exact st_vret h hr dX0_enter_16
set_option maxRecDepth 100000 in
set_option maxHeartbeats 4000000 in
theorem w_X11_year_43 {p : Program} {l : Launch} {e : Env} {s : State} {m : MethodId} {args : Array Value} {below : List Frame} {meth : Method} {c : Code} {G : Gv} (h : Cx p s m args meth c G cX11_year 2 RX11) (hr : meth.sig.returnType = (some .int)) : ∀ (σ : Sto) (z : (Int32 × Sto)), F_X11_year_43 σ  = some z → AW p l e (rmD 7 0 0) s m args below meth c (MQ below (QcR G shC νC (some (.int z.1)) (ovC z.2)) args s 0 0 (gA G)) 0 0 G 2 43 [some (.ref 0), none] [] shC νC (ovC σ) := by
  intro σ z hF
  rw [F_X11_year_43] at hF
  refine st_aload_0 h dX11_year_43 ?_
  refine st_ic_5 h dX11_year_44 ?_
  obtain ⟨x1, hx1, hF⟩ := bI hF
  refine st_cVi (vs := [.int 5]) (st := []) h (w_X11_refuse hx1) mi_X11_refuse mv_X11_refuse ml_X11_99 dX11_year_45 kC_0 rfl ⟨Nat.le_of_ble_eq_true rfl, Nat.le_of_ble_eq_true rfl⟩ (Nat.le_of_ble_eq_true rfl) rfl ?_
  cases hF
  exact st_iret h hr dX11_year_48
set_option maxRecDepth 100000 in
set_option maxHeartbeats 4000000 in
theorem w_X11_year_49 {p : Program} {l : Launch} {e : Env} {s : State} {m : MethodId} {args : Array Value} {below : List Frame} {meth : Method} {c : Code} {G : Gv} (h : Cx p s m args meth c G cX11_year 2 RX11) (hr : meth.sig.returnType = (some .int)) : ∀ (σ : Sto) (z : (Int32 × Sto)), F_X11_year_49 σ  = some z → AW p l e (rmD 7 0 0) s m args below meth c (MQ below (QcR G shC νC (some (.int z.1)) (ovC z.2)) args s 0 0 (gA G)) 0 0 G 2 49 [some (.ref 0), none] [] shC νC (ovC σ) := by
  intro σ z hF
  rw [F_X11_year_49] at hF
  refine st_aload_0 h dX11_year_49 ?_
  refine gX11_4 h fl_X11_37 dX11_year_50 (congrArg Prod.fst kC_0) ?_
  refine st_aload_0 h dX11_year_53 ?_
  refine gX11_2 h fl_X11_23 dX11_year_54 (congrArg Prod.fst kC_0) ?_
  obtain ⟨x1, hx1, hF⟩ := bI hF
  refine st_cVv (vs := [.ref 3]) (st := []) h (w_X5_push hx1) mi_X5_push mv_X5_push ml_X11_319 dX11_year_57 kC_10 rfl ⟨Nat.le_of_ble_eq_true rfl, Nat.le_of_ble_eq_true rfl⟩ (Nat.le_of_ble_eq_true rfl) rfl ?_
  refine st_aload_0 h dX11_year_60 ?_
  refine gX11_3 h fl_X11_30 dX11_year_61 (congrArg Prod.fst kC_0) ?_
  refine st_aload_0 h dX11_year_64 ?_
  obtain ⟨x2, hx2, hF⟩ := bI hF
  refine gX11_11 h fl_X11_83 dX11_year_65 hx2 ?_
  refine st_aload_0 h dX11_year_68 ?_
  refine gX11_2 h fl_X11_23 dX11_year_69 (congrArg Prod.fst kC_0) ?_
  obtain ⟨x3, hx3, hF⟩ := bI hF
  refine st_cVv (vs := [.ref x2, .ref 3]) (st := []) h (w_X0_enter hx3) mi_X0_enter mv_X0_enter ml_X11_338 dX11_year_72 kC_8 rfl ⟨Nat.le_of_ble_eq_true rfl, Nat.le_of_ble_eq_true rfl⟩ (Nat.le_of_ble_eq_true rfl) rfl ?_
  refine st_aload_0 h dX11_year_75 ?_
  refine gX11_2 h fl_X11_23 dX11_year_76 (congrArg Prod.fst kC_0) ?_
  refine st_aload_0 h dX11_year_79 ?_
  obtain ⟨x4, hx4, hF⟩ := bI hF
  refine gX11_11 h fl_X11_83 dX11_year_80 hx4 ?_
  obtain ⟨x5, hx5, hF⟩ := bI hF
  refine st_cVv (vs := [.ref x4]) (st := []) h (w_X10_end hx5) mi_X10_end mv_X10_end ml_X11_342 dX11_year_83 kC_3 rfl ⟨Nat.le_of_ble_eq_true rfl, Nat.le_of_ble_eq_true rfl⟩ (Nat.le_of_ble_eq_true rfl) rfl ?_
  refine st_aload_0 h dX11_year_86 ?_
  obtain ⟨x6, hx6, hF⟩ := bI hF
  refine st_cVv (vs := []) (st := []) h (w_X11_forgetAll hx6) mi_X11_forgetAll mv_X11_forgetAll ml_X11_332 dX11_year_87 kC_0 rfl ⟨Nat.le_of_ble_eq_true rfl, Nat.le_of_ble_eq_true rfl⟩ (Nat.le_of_ble_eq_true rfl) rfl ?_
  refine st_aload_0 h dX11_year_90 ?_
  refine st_aload_0 h dX11_year_91 ?_
  refine gX11_2 h fl_X11_23 dX11_year_92 (congrArg Prod.fst kC_0) ?_
  refine gX10_0 h fl_X11_135 dX11_year_95 (congrArg Prod.fst kC_3) ?_
  obtain ⟨x7, hx7, hF⟩ := bI hF
  refine st_cVi (vs := [.int (x6.1 3 0)]) (st := []) h (w_X11_answer hx7) mi_X11_answer mv_X11_answer ml_X11_125 dX11_year_98 kC_0 rfl ⟨Nat.le_of_ble_eq_true rfl, Nat.le_of_ble_eq_true rfl⟩ (Nat.le_of_ble_eq_true rfl) rfl ?_
  cases hF
  exact st_iret h hr dX11_year_101
set_option maxRecDepth 100000 in
set_option maxHeartbeats 4000000 in
theorem w_X11_year {l : Launch} {G : Gv} {σ : Sto} {i1 : Int32} {z : (Int32 × Sto)} (hF : F_X11_year σ i1 = some z) : Con l yX11_year cX11_year 2 (some .int) 7 G shC νC [.ref 0, .int i1] (ovC σ) (some (.int z.1)) (ovC z.2) := by
  rw [F_X11_year] at hF
  refine Con_enter (own := RX11) 0 (lv := [some (.ref 0), some (.int i1)]) mi_X11_year.2.2.2 rfl (Nat.le_of_ble_eq_true rfl) rfl (fun h hr hin => ?_)
  refine st_aload_0 h dX11_year_0 ?_
  refine gX11_13 h fl_X11_131 dX11_year_1 (congrArg Prod.fst kC_0) ?_
  refine st_if_ne (t := 13) h dX11_year_4 (by decide) (fun q1 => ?_) (fun q1 => ?_)
  · have hF := qI q1 hF
    refine st_aload_0 h dX11_year_13 ?_
    refine gX11_2 h fl_X11_23 dX11_year_14 (congrArg Prod.fst kC_0) ?_
    refine gX10_0 h fl_X11_135 dX11_year_17 (congrArg Prod.fst kC_3) ?_
    refine st_bipush (v := 99) h dX11_year_20 (by decide) ?_
    refine st_icmp_ge (t := 43) h dX11_year_22 (by decide) (fun q2 => ?_) (fun q2 => ?_)
    · have hF := pI q2 hF
      exact st_sub (ls_s (ls_n ls_e)) (w_X11_year_43 h hr σ  z hF)
    · have hF := qI q2 hF
      refine st_iload_1 h dX11_year_25 ?_
      refine st_if_ne (t := 49) h dX11_year_26 (by decide) (fun q3 => ?_) (fun q3 => ?_)
      · have hF := qI q3 hF
        exact st_sub (ls_s (ls_n ls_e)) (w_X11_year_49 h hr σ  z hF)
      · have hF := pI q3 hF
        refine st_aload_0 h dX11_year_29 ?_
        refine gX11_2 h fl_X11_23 dX11_year_30 (congrArg Prod.fst kC_0) ?_
        refine st_aload_0 h dX11_year_33 ?_
        obtain ⟨x1, hx1, hF⟩ := bI hF
        refine gX11_11 h fl_X11_83 dX11_year_34 hx1 ?_
        obtain ⟨x2, hx2, hF⟩ := bI hF
        refine st_cVi (vs := [.ref x1]) (st := []) h (w_X10_isKept hx2) mi_X10_isKept mv_X10_isKept ml_X11_162 dX11_year_37 kC_3 rfl ⟨Nat.le_of_ble_eq_true rfl, Nat.le_of_ble_eq_true rfl⟩ (Nat.le_of_ble_eq_true rfl) rfl ?_
        refine st_if_ne (t := 49) h dX11_year_40 (by decide) (fun q4 => ?_) (fun q4 => ?_)
        · have hF := qI q4 hF
          exact st_sub (ls_s (ls_n ls_e)) (w_X11_year_49 h hr σ  z hF)
        · have hF := pI q4 hF
          exact st_sub (ls_s (ls_n ls_e)) (w_X11_year_43 h hr σ  z hF)
  · have hF := pI q1 hF
    refine st_aload_0 h dX11_year_7 ?_
    refine st_ic_1 h dX11_year_8 ?_
    obtain ⟨x3, hx3, hF⟩ := bI hF
    refine st_cVi (vs := [.int 1]) (st := []) h (w_X11_refuse hx3) mi_X11_refuse mv_X11_refuse ml_X11_99 dX11_year_9 kC_0 rfl ⟨Nat.le_of_ble_eq_true rfl, Nat.le_of_ble_eq_true rfl⟩ (Nat.le_of_ble_eq_true rfl) rfl ?_
    cases hF
    exact st_iret h hr dX11_year_12
set_option maxRecDepth 100000 in
set_option maxHeartbeats 4000000 in
theorem w_X5_pop {l : Launch} {G : Gv} {σ : Sto} {a1 : Nat} {z : Sto} (hF : F_X5_pop σ a1 = some z) : Con l yX5_pop cX5_pop 2 none 2 G shC νC [.ref 10, .ref a1] (ovC σ) none (ovC z) := by
  rw [F_X5_pop] at hF
  refine Con_enter (own := RX5) 0 (lv := [some (.ref 10), some (.ref a1)]) mi_X5_pop.2.2.2 rfl (Nat.le_of_ble_eq_true rfl) rfl (fun h hr hin => ?_)
  refine st_aload_0 h dX5_pop_0 ?_
  refine st_aload_0 h dX5_pop_1 ?_
  refine gX5_1 h fl_X5_20 dX5_pop_2 (congrArg Prod.fst kC_10) ?_
  refine st_bipush (v := 10) h dX5_pop_5 (by decide) ?_
  refine st_iadd h dX5_pop_7 ?_
  refine st_ic_1 h dX5_pop_8 ?_
  refine st_isub h dX5_pop_9 ?_
  refine st_bipush (v := 10) h dX5_pop_10 (by decide) ?_
  refine st_irem h (by decide) dX5_pop_12 ?_
  obtain ⟨s1, hs1, hF⟩ := swI hF
  refine pX5_1 h fl_X5_20 dX5_pop_13 (congrArg Prod.fst kC_10) hs1 ?_
  refine st_aload_1 h dX5_pop_16 ?_
  refine st_aload_0 h dX5_pop_17 ?_
  refine gX5_0 h fl_X5_11 dX5_pop_18 (congrArg Prod.fst kC_10) ?_
  refine st_aload_0 h dX5_pop_21 ?_
  refine gX5_1 h fl_X5_20 dX5_pop_22 (congrArg Prod.fst kC_10) ?_
  obtain ⟨g1, hF⟩ := gI hF
  refine aaY h dX5_pop_25 g1 ?_
  obtain ⟨g2, hF⟩ := gI hF
  obtain ⟨x1, hx1, hF⟩ := bI hF
  refine st_cVv (vs := [.ref (12 + 5 * ix (s1.1 10 1))]) (st := []) h (w_X10_copy hx1) mi_X10_copy mv_X10_copy ml_X5_23 dX5_pop_26 (shC_e g2) rfl ⟨Nat.le_of_ble_eq_true rfl, Nat.le_of_ble_eq_true rfl⟩ (Nat.le_of_ble_eq_true rfl) rfl ?_
  refine st_aload_0 h dX5_pop_29 ?_
  refine st_dup h rfl dX5_pop_30 ?_
  refine gX5_2 h fl_X5_16 dX5_pop_31 (congrArg Prod.fst kC_10) ?_
  refine st_ic_1 h dX5_pop_34 ?_
  refine st_isub h dX5_pop_35 ?_
  obtain ⟨s2, hs2, hF⟩ := swI hF
  refine pX5_2 h fl_X5_16 dX5_pop_36 (congrArg Prod.fst kC_10) hs2 ?_
  cases hF
  exact st_vret h hr dX5_pop_39
set_option maxRecDepth 100000 in
set_option maxHeartbeats 4000000 in
theorem w_X11_undo {l : Launch} {G : Gv} {σ : Sto} {z : (Int32 × Sto)} (hF : F_X11_undo σ  = some z) : Con l yX11_undo cX11_undo 1 (some .int) 4 G shC νC [.ref 0] (ovC σ) (some (.int z.1)) (ovC z.2) := by
  rw [F_X11_undo] at hF
  refine Con_enter (own := RX11) 0 (lv := [some (.ref 0)]) mi_X11_undo.2.2.2 rfl (Nat.le_of_ble_eq_true rfl) rfl (fun h hr hin => ?_)
  refine st_aload_0 h dX11_undo_0 ?_
  refine gX11_13 h fl_X11_131 dX11_undo_1 (congrArg Prod.fst kC_0) ?_
  refine st_if_ne (t := 13) h dX11_undo_4 (by decide) (fun q1 => ?_) (fun q1 => ?_)
  · have hF := qI q1 hF
    refine st_aload_0 h dX11_undo_13 ?_
    refine gX11_4 h fl_X11_37 dX11_undo_14 (congrArg Prod.fst kC_0) ?_
    refine gX5_2 h fl_X11_166 dX11_undo_17 (congrArg Prod.fst kC_10) ?_
    refine st_if_ne (t := 29) h dX11_undo_20 (by decide) (fun q2 => ?_) (fun q2 => ?_)
    · have hF := qI q2 hF
      refine st_aload_0 h dX11_undo_29 ?_
      refine gX11_4 h fl_X11_37 dX11_undo_30 (congrArg Prod.fst kC_0) ?_
      refine st_aload_0 h dX11_undo_33 ?_
      refine gX11_2 h fl_X11_23 dX11_undo_34 (congrArg Prod.fst kC_0) ?_
      obtain ⟨x1, hx1, hF⟩ := bI hF
      refine st_cVv (vs := [.ref 3]) (st := []) h (w_X5_pop hx1) mi_X5_pop mv_X5_pop ml_X11_346 dX11_undo_37 kC_10 rfl ⟨Nat.le_of_ble_eq_true rfl, Nat.le_of_ble_eq_true rfl⟩ (Nat.le_of_ble_eq_true rfl) rfl ?_
      refine st_aload_0 h dX11_undo_40 ?_
      obtain ⟨x2, hx2, hF⟩ := bI hF
      refine st_cVv (vs := []) (st := []) h (w_X11_forgetAll hx2) mi_X11_forgetAll mv_X11_forgetAll ml_X11_332 dX11_undo_41 kC_0 rfl ⟨Nat.le_of_ble_eq_true rfl, Nat.le_of_ble_eq_true rfl⟩ (Nat.le_of_ble_eq_true rfl) rfl ?_
      refine st_aload_0 h dX11_undo_44 ?_
      refine st_aload_0 h dX11_undo_45 ?_
      refine gX11_4 h fl_X11_37 dX11_undo_46 (congrArg Prod.fst kC_0) ?_
      refine gX5_2 h fl_X11_166 dX11_undo_49 (congrArg Prod.fst kC_10) ?_
      obtain ⟨x3, hx3, hF⟩ := bI hF
      refine st_cVi (vs := [.int (x2.1 10 2)]) (st := []) h (w_X11_answer hx3) mi_X11_answer mv_X11_answer ml_X11_125 dX11_undo_52 kC_0 rfl ⟨Nat.le_of_ble_eq_true rfl, Nat.le_of_ble_eq_true rfl⟩ (Nat.le_of_ble_eq_true rfl) rfl ?_
      cases hF
      exact st_iret h hr dX11_undo_55
    · have hF := pI q2 hF
      refine st_aload_0 h dX11_undo_23 ?_
      refine st_ic_5 h dX11_undo_24 ?_
      obtain ⟨x4, hx4, hF⟩ := bI hF
      refine st_cVi (vs := [.int 5]) (st := []) h (w_X11_refuse hx4) mi_X11_refuse mv_X11_refuse ml_X11_99 dX11_undo_25 kC_0 rfl ⟨Nat.le_of_ble_eq_true rfl, Nat.le_of_ble_eq_true rfl⟩ (Nat.le_of_ble_eq_true rfl) rfl ?_
      cases hF
      exact st_iret h hr dX11_undo_28
  · have hF := pI q1 hF
    refine st_aload_0 h dX11_undo_7 ?_
    refine st_ic_1 h dX11_undo_8 ?_
    obtain ⟨x5, hx5, hF⟩ := bI hF
    refine st_cVi (vs := [.int 1]) (st := []) h (w_X11_refuse hx5) mi_X11_refuse mv_X11_refuse ml_X11_99 dX11_undo_9 kC_0 rfl ⟨Nat.le_of_ble_eq_true rfl, Nat.le_of_ble_eq_true rfl⟩ (Nat.le_of_ble_eq_true rfl) rfl ?_
    cases hF
    exact st_iret h hr dX11_undo_12
