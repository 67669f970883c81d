theorem nI6 (k : Nat) : nI (k + 6) - 6 = nI k := by
  have h : nI (k + 6) = nI k + 6 := by rw [show (6 : Int32) = nI 6 from by decide, nI_ad]
  rw [h, Int32.add_sub_cancel]
theorem lw_six {i L : Nat} (hL : L ≤ 3072) (hi : i ≤ L) (h : ¬ nI L - 6 < nI i) : i + 6 ≤ L := by
  rcases Nat.lt_or_ge L 6 with q | q
  · have hs : ∀ L, L < 6 → ∀ i, i ≤ L → nI L - 6 < nI i := by decide +kernel
    exact absurd (hs L q i hi) h
  · rcases Nat.lt_or_ge L (i + 6) with r | r
    · refine absurd ?_ h
      rw [show L = (L - 6) + 6 by omega, nI6]
      exact nI_lt (by omega) (by omega)
    · exact r
theorem tsw_0_48 {x : Int32} (q0 : ¬ x = 0) (q1 : ¬ x = 1) (q2 : ¬ x = 2) (q3 : ¬ x = 3) (q4 : ¬ x = 4) (q5 : ¬ x = 5) (q6 : ¬ x = 6) (q7 : ¬ x = 7) (q8 : ¬ x = 8) (q9 : ¬ x = 9) (q10 : ¬ x = 10) (q11 : ¬ x = 11) (q12 : ¬ x = 12) (q13 : ¬ x = 13) (q14 : ¬ x = 14) (q15 : ¬ x = 15) (q16 : ¬ x = 16) (q17 : ¬ x = 17) (q18 : ¬ x = 18) (q19 : ¬ x = 19) (q20 : ¬ x = 20) (q21 : ¬ x = 21) (q22 : ¬ x = 22) (q23 : ¬ x = 23) (q24 : ¬ x = 24) (q25 : ¬ x = 25) (q26 : ¬ x = 26) (q27 : ¬ x = 27) (q28 : ¬ x = 28) (q29 : ¬ x = 29) (q30 : ¬ x = 30) (q31 : ¬ x = 31) (q32 : ¬ x = 32) (q33 : ¬ x = 33) (q34 : ¬ x = 34) (q35 : ¬ x = 35) (q36 : ¬ x = 36) (q37 : ¬ x = 37) (q38 : ¬ x = 38) (q39 : ¬ x = 39) (q40 : ¬ x = 40) (q41 : ¬ x = 41) (q42 : ¬ x = 42) (q43 : ¬ x = 43) (q44 : ¬ x = 44) (q45 : ¬ x = 45) (q46 : ¬ x = 46) (q47 : ¬ x = 47) (q48 : ¬ x = 48) : x.toInt < 0 ∨ 48 < x.toInt := tab_out (lo := 0) (n := 49) (fun j hj => match j, hj with
  | 0, _ => fun e => q0 (Int32.toInt_inj.mp (e.trans (by decide)))
  | 1, _ => fun e => q1 (Int32.toInt_inj.mp (e.trans (by decide)))
  | 2, _ => fun e => q2 (Int32.toInt_inj.mp (e.trans (by decide)))
  | 3, _ => fun e => q3 (Int32.toInt_inj.mp (e.trans (by decide)))
  | 4, _ => fun e => q4 (Int32.toInt_inj.mp (e.trans (by decide)))
  | 5, _ => fun e => q5 (Int32.toInt_inj.mp (e.trans (by decide)))
  | 6, _ => fun e => q6 (Int32.toInt_inj.mp (e.trans (by decide)))
  | 7, _ => fun e => q7 (Int32.toInt_inj.mp (e.trans (by decide)))
  | 8, _ => fun e => q8 (Int32.toInt_inj.mp (e.trans (by decide)))
  | 9, _ => fun e => q9 (Int32.toInt_inj.mp (e.trans (by decide)))
  | 10, _ => fun e => q10 (Int32.toInt_inj.mp (e.trans (by decide)))
  | 11, _ => fun e => q11 (Int32.toInt_inj.mp (e.trans (by decide)))
  | 12, _ => fun e => q12 (Int32.toInt_inj.mp (e.trans (by decide)))
  | 13, _ => fun e => q13 (Int32.toInt_inj.mp (e.trans (by decide)))
  | 14, _ => fun e => q14 (Int32.toInt_inj.mp (e.trans (by decide)))
  | 15, _ => fun e => q15 (Int32.toInt_inj.mp (e.trans (by decide)))
  | 16, _ => fun e => q16 (Int32.toInt_inj.mp (e.trans (by decide)))
  | 17, _ => fun e => q17 (Int32.toInt_inj.mp (e.trans (by decide)))
  | 18, _ => fun e => q18 (Int32.toInt_inj.mp (e.trans (by decide)))
  | 19, _ => fun e => q19 (Int32.toInt_inj.mp (e.trans (by decide)))
  | 20, _ => fun e => q20 (Int32.toInt_inj.mp (e.trans (by decide)))
  | 21, _ => fun e => q21 (Int32.toInt_inj.mp (e.trans (by decide)))
  | 22, _ => fun e => q22 (Int32.toInt_inj.mp (e.trans (by decide)))
  | 23, _ => fun e => q23 (Int32.toInt_inj.mp (e.trans (by decide)))
  | 24, _ => fun e => q24 (Int32.toInt_inj.mp (e.trans (by decide)))
  | 25, _ => fun e => q25 (Int32.toInt_inj.mp (e.trans (by decide)))
  | 26, _ => fun e => q26 (Int32.toInt_inj.mp (e.trans (by decide)))
  | 27, _ => fun e => q27 (Int32.toInt_inj.mp (e.trans (by decide)))
  | 28, _ => fun e => q28 (Int32.toInt_inj.mp (e.trans (by decide)))
  | 29, _ => fun e => q29 (Int32.toInt_inj.mp (e.trans (by decide)))
  | 30, _ => fun e => q30 (Int32.toInt_inj.mp (e.trans (by decide)))
  | 31, _ => fun e => q31 (Int32.toInt_inj.mp (e.trans (by decide)))
  | 32, _ => fun e => q32 (Int32.toInt_inj.mp (e.trans (by decide)))
  | 33, _ => fun e => q33 (Int32.toInt_inj.mp (e.trans (by decide)))
  | 34, _ => fun e => q34 (Int32.toInt_inj.mp (e.trans (by decide)))
  | 35, _ => fun e => q35 (Int32.toInt_inj.mp (e.trans (by decide)))
  | 36, _ => fun e => q36 (Int32.toInt_inj.mp (e.trans (by decide)))
  | 37, _ => fun e => q37 (Int32.toInt_inj.mp (e.trans (by decide)))
  | 38, _ => fun e => q38 (Int32.toInt_inj.mp (e.trans (by decide)))
  | 39, _ => fun e => q39 (Int32.toInt_inj.mp (e.trans (by decide)))
  | 40, _ => fun e => q40 (Int32.toInt_inj.mp (e.trans (by decide)))
  | 41, _ => fun e => q41 (Int32.toInt_inj.mp (e.trans (by decide)))
  | 42, _ => fun e => q42 (Int32.toInt_inj.mp (e.trans (by decide)))
  | 43, _ => fun e => q43 (Int32.toInt_inj.mp (e.trans (by decide)))
  | 44, _ => fun e => q44 (Int32.toInt_inj.mp (e.trans (by decide)))
  | 45, _ => fun e => q45 (Int32.toInt_inj.mp (e.trans (by decide)))
  | 46, _ => fun e => q46 (Int32.toInt_inj.mp (e.trans (by decide)))
  | 47, _ => fun e => q47 (Int32.toInt_inj.mp (e.trans (by decide)))
  | 48, _ => fun e => q48 (Int32.toInt_inj.mp (e.trans (by decide)))
  | j + 49, hj => absurd hj (by omega))
set_option maxRecDepth 100000 in
set_option maxHeartbeats 4000000 in
theorem law_loop {p : Program} {l : Launch} {e : Env} {s : State} {m : MethodId} {below : List Frame} {meth : Method} {c : Code} {b L : Nat} {xs : Nat → Int32} {GC GM : Gv} (Inv : Sto → Sto → Prop) (h_feed : Sp_feed Inv) (h_text : Sp_text Inv) (h_fault : Sp_fault Inv) (h_where : Sp_where Inv) (h_about : Sp_about Inv) (h_service : Sp_service Inv) (h_rule : Sp_rule Inv) (h_carried : Sp_carried Inv) (h_bought : Sp_bought Inv) (h_profit : Sp_profit Inv) (h_good : Sp_good Inv) (h_most : Sp_most Inv) (h_free : Sp_free Inv) (h_best : Sp_best Inv) (h_bestOf : Sp_bestOf Inv) (h_fair : Sp_fair Inv) (h_fairOf : Sp_fairOf Inv) (h_rows : Sp_rows Inv) (h_freely : Sp_freely Inv) (h_game : Sp_game Inv) (h_path : Sp_path Inv) (h_buyer : Sp_buyer Inv) (h_units : Sp_units Inv) (h_hurt : Sp_hurt Inv) (h_hardest : Sp_hardest Inv) (h_gentle : Sp_gentle Inv) (h_gentleOf : Sp_gentleOf Inv) (h_steady : Sp_steady Inv) (h_steadyOf : Sp_steadyOf Inv) (h_level : Sp_level Inv) (h_trade : Sp_trade Inv) (h_reach : Sp_reach Inv) (h_next : Sp_next Inv) (h_gains : Sp_gains Inv) (h_share : Sp_share Inv) (h_write : Sp_write Inv) (h_octet : Sp_octet Inv) (h_price : Sp_price Inv) (h_lay : Sp_lay Inv) (h_quality : Sp_quality Inv) (h_become : Sp_become Inv) (h_year : Sp_year Inv) (h_undo : Sp_undo Inv) (h_keep : Sp_keep Inv) (h_back : Sp_back Inv) (h_book : Sp_book Inv) (h_letter : Sp_letter Inv) (h_bytes : Sp_bytes Inv) (h_trouble : Sp_trouble Inv) (C : LC p l s m meth c b L xs GC GM) :
    ∀ (n j : Nat), L < 6 * (j + n) → 6 * j ≤ L → ∀ (x4 : Int32), x4 = nI (6 * j) → ∀ (σC σM : Sto) (f : Nat → Int64) (H : Heap) (locs : List Loc) (ls : Array Slot), Inv σC σM → LH GC GM σC σM f H → va_S (fun q => s.heap.size ≤ q) s.heap H locs → lv_has ls 7 (lwL b s.heap.size x4) →
    W p l e room_1 s m #[Value.ref b] below meth c H locs (154 + j) (12000 + 6 * j) (lw_Z below #[Value.ref b] s) (F0 m 23 ls []) := by
  obtain ⟨hx, hb, hr, hml, hown, hts, hX, hbl, hlocks, hgv⟩ := id C.1
  have hbA : ¬ (fun q : Nat => s.heap.size ≤ q) b := Nat.not_le.mpr hbl
  have hL := C.2.1
  intro n
  induction n with
  | zero =>
    intro j h1 h2
    exact absurd h1 (by omega)
  | succ n ih =>
    intro j h1 h2 x4 ex σC σM f H locs ls hI hH hS hl
    refine lv_iload hx hb dL_law_23 (lv_at hl 4 rfl) ?_
    refine lv_aload_n hx hb dL_law_25 rfl (lv_at hl 0 rfl) ?_
    refine va_slen hx hb hX hbl hbA hS dL_law_26 ?_
    refine lv_bipush (v := 6) hx hb dL_law_27 (by decide) ?_
    refine lv_isub hx hb dL_law_29 ?_
    refine lv_icmp_gt (tgt := 1649) hx hb dL_law_30 (by decide) (fun q => ?_) (fun q => ?_)
    · refine lv_iconst (v := 1) hx hb dL_law_1649 (by decide) ?_
      refine va_forget (fun q hq => hS.2.2 q hq) ?_
      refine W.widen (k := 601024) (n := 7293034) (by omega) (by omega) ?_
      exact lw_ret hx hb hr hlocks dL_law_1650
    · have hi : 6 * j + 6 ≤ L := lw_six hL h2 (by rw [← ex]; exact q)
      refine lv_aload_n hx hb dL_law_33 rfl (lv_at hl 0 rfl) ?_
      refine lv_iload hx hb dL_law_34 (lv_at hl 4 rfl) ?_
      refine va_sld hx hb hX hbl hbA hS (show vp_in x4 L by rw [ex]; exact vp_in_nI (by omega) (by omega)) dL_law_36 ?_
      refine lv_bipush (v := 63) hx hb dL_law_37 (by decide) ?_
      refine lv_iand hx hb dL_law_39 ?_
      have kend : ∀ (σC σM : Sto) (f : Nat → Int64) (H : Heap) (locs : List Loc) (ls : Array Slot), Inv σC σM → LH GC GM σC σM f H → va_S (fun q => s.heap.size ≤ q) s.heap H locs → lv_has ls 7 (lwL b s.heap.size x4) → W p l e room_1 s m #[Value.ref b] below meth c H locs (154 + j + 1) (12000 + 6 * j + 6) (lw_Z below #[Value.ref b] s) (F0 m 1643 ls []) := by
        intro σC σM f H locs ls hI hH hS hl
        refine lv_iinc (v := nI (6 * (j + 1))) (lv' := [(4, .int (nI (6 * (j + 1)))), (0, .ref b), (1, .ref s.heap.size), (2, .ref (s.heap.size + 134)), (3, .ref (s.heap.size + 153))]) hx hb dL_law_1643 hl (k := 4) rfl ?_ (by decide) rfl (fun ls hl => ?_)
        · rw [ex, show Int32.ofInt 6 = nI 6 from by decide, nI_ad]
          rfl
        · refine lv_goto (tgt := 23) hx hb dL_law_1646 (by decide) ?_
          exact ih (j + 1) (by omega) (by omega) _ rfl σC σM f H locs ls hI hH hS (lv_sub hl [1, 2, 3, 4, 0] rfl)
      have hcs : 154 + j + 1 ≤ 601024 ∧ 12000 + 6 * j + 6 ≤ 7293034 := ⟨by omega, by omega⟩
      generalize xs x4.toNatClampNeg &&& 63 = x
      by_cases q0 : x = 0
      · refine lv_tableIn (tgt := 252) hx hb dL_law_40 (by rw [q0]; decide) (by rw [q0]; decide) (by rw [q0]; rfl) (by decide) ?_
        exact lc_feed h_feed C ex hi hcs hI hH hS hl kend
      by_cases q1 : x = 1
      · refine lv_tableIn (tgt := 325) hx hb dL_law_40 (by rw [q1]; decide) (by rw [q1]; decide) (by rw [q1]; rfl) (by decide) ?_
        exact lc_text h_text C ex hi hcs hI hH hS hl kend
      by_cases q2 : x = 2
      · refine lv_tableIn (tgt := 350) hx hb dL_law_40 (by rw [q2]; decide) (by rw [q2]; decide) (by rw [q2]; rfl) (by decide) ?_
        exact lc_fault h_fault C ex hi hcs hI hH hS hl kend
      by_cases q3 : x = 3
      · refine lv_tableIn (tgt := 363) hx hb dL_law_40 (by rw [q3]; decide) (by rw [q3]; decide) (by rw [q3]; rfl) (by decide) ?_
        exact lc_where h_where C ex hi hcs hI hH hS hl kend
      by_cases q4 : x = 4
      · refine lv_tableIn (tgt := 376) hx hb dL_law_40 (by rw [q4]; decide) (by rw [q4]; decide) (by rw [q4]; rfl) (by decide) ?_
        exact lc_about h_about C ex hi hcs hI hH hS hl kend
      by_cases q5 : x = 5
      · refine lv_tableIn (tgt := 401) hx hb dL_law_40 (by rw [q5]; decide) (by rw [q5]; decide) (by rw [q5]; rfl) (by decide) ?_
        exact lc_service h_service C ex hi hcs hI hH hS hl kend
      by_cases q6 : x = 6
      · refine lv_tableIn (tgt := 438) hx hb dL_law_40 (by rw [q6]; decide) (by rw [q6]; decide) (by rw [q6]; rfl) (by decide) ?_
        exact lc_rule h_rule C ex hi hcs hI hH hS hl kend
      by_cases q7 : x = 7
      · refine lv_tableIn (tgt := 463) hx hb dL_law_40 (by rw [q7]; decide) (by rw [q7]; decide) (by rw [q7]; rfl) (by decide) ?_
        exact lc_carried h_carried C ex hi hcs hI hH hS hl kend
      by_cases q8 : x = 8
      · refine lv_tableIn (tgt := 488) hx hb dL_law_40 (by rw [q8]; decide) (by rw [q8]; decide) (by rw [q8]; rfl) (by decide) ?_
        exact lc_bought h_bought C ex hi hcs hI hH hS hl kend
      by_cases q9 : x = 9
      · refine lv_tableIn (tgt := 525) hx hb dL_law_40 (by rw [q9]; decide) (by rw [q9]; decide) (by rw [q9]; rfl) (by decide) ?_
        exact lc_profit h_profit C ex hi hcs hI hH hS hl kend
      by_cases q10 : x = 10
      · refine lv_tableIn (tgt := 562) hx hb dL_law_40 (by rw [q10]; decide) (by rw [q10]; decide) (by rw [q10]; rfl) (by decide) ?_
        exact lc_good h_good C ex hi hcs hI hH hS hl kend
      by_cases q11 : x = 11
      · refine lv_tableIn (tgt := 599) hx hb dL_law_40 (by rw [q11]; decide) (by rw [q11]; decide) (by rw [q11]; rfl) (by decide) ?_
        exact lc_most h_most C ex hi hcs hI hH hS hl kend
      by_cases q12 : x = 12
      · refine lv_tableIn (tgt := 624) hx hb dL_law_40 (by rw [q12]; decide) (by rw [q12]; decide) (by rw [q12]; rfl) (by decide) ?_
        exact lc_free h_free C ex hi hcs hI hH hS hl kend
      by_cases q13 : x = 13
      · refine lv_tableIn (tgt := 649) hx hb dL_law_40 (by rw [q13]; decide) (by rw [q13]; decide) (by rw [q13]; rfl) (by decide) ?_
        exact lc_best h_best C ex hi hcs hI hH hS hl kend
      by_cases q14 : x = 14
      · refine lv_tableIn (tgt := 662) hx hb dL_law_40 (by rw [q14]; decide) (by rw [q14]; decide) (by rw [q14]; rfl) (by decide) ?_
        exact lc_bestOf h_bestOf C ex hi hcs hI hH hS hl kend
      by_cases q15 : x = 15
      · refine lv_tableIn (tgt := 687) hx hb dL_law_40 (by rw [q15]; decide) (by rw [q15]; decide) (by rw [q15]; rfl) (by decide) ?_
        exact lc_fair h_fair C ex hi hcs hI hH hS hl kend
      by_cases q16 : x = 16
      · refine lv_tableIn (tgt := 700) hx hb dL_law_40 (by rw [q16]; decide) (by rw [q16]; decide) (by rw [q16]; rfl) (by decide) ?_
        exact lc_fairOf h_fairOf C ex hi hcs hI hH hS hl kend
      by_cases q17 : x = 17
      · refine lv_tableIn (tgt := 725) hx hb dL_law_40 (by rw [q17]; decide) (by rw [q17]; decide) (by rw [q17]; rfl) (by decide) ?_
        exact lc_rows h_rows C ex hi hcs hI hH hS hl kend
      by_cases q18 : x = 18
      · refine lv_tableIn (tgt := 738) hx hb dL_law_40 (by rw [q18]; decide) (by rw [q18]; decide) (by rw [q18]; rfl) (by decide) ?_
        exact lc_freely h_freely C ex hi hcs hI hH hS hl kend
      by_cases q19 : x = 19
      · refine lv_tableIn (tgt := 763) hx hb dL_law_40 (by rw [q19]; decide) (by rw [q19]; decide) (by rw [q19]; rfl) (by decide) ?_
        exact lc_game h_game C ex hi hcs hI hH hS hl kend
      by_cases q20 : x = 20
      · refine lv_tableIn (tgt := 788) hx hb dL_law_40 (by rw [q20]; decide) (by rw [q20]; decide) (by rw [q20]; rfl) (by decide) ?_
        exact lc_path h_path C ex hi hcs hI hH hS hl kend
      by_cases q21 : x = 21
      · refine lv_tableIn (tgt := 825) hx hb dL_law_40 (by rw [q21]; decide) (by rw [q21]; decide) (by rw [q21]; rfl) (by decide) ?_
        exact lc_buyer h_buyer C ex hi hcs hI hH hS hl kend
      by_cases q22 : x = 22
      · refine lv_tableIn (tgt := 862) hx hb dL_law_40 (by rw [q22]; decide) (by rw [q22]; decide) (by rw [q22]; rfl) (by decide) ?_
        exact lc_units h_units C ex hi hcs hI hH hS hl kend
      by_cases q23 : x = 23
      · refine lv_tableIn (tgt := 899) hx hb dL_law_40 (by rw [q23]; decide) (by rw [q23]; decide) (by rw [q23]; rfl) (by decide) ?_
        exact lc_hurt h_hurt C ex hi hcs hI hH hS hl kend
      by_cases q24 : x = 24
      · refine lv_tableIn (tgt := 912) hx hb dL_law_40 (by rw [q24]; decide) (by rw [q24]; decide) (by rw [q24]; rfl) (by decide) ?_
        exact lc_hardest h_hardest C ex hi hcs hI hH hS hl kend
      by_cases q25 : x = 25
      · refine lv_tableIn (tgt := 925) hx hb dL_law_40 (by rw [q25]; decide) (by rw [q25]; decide) (by rw [q25]; rfl) (by decide) ?_
        exact lc_gentle h_gentle C ex hi hcs hI hH hS hl kend
      by_cases q26 : x = 26
      · refine lv_tableIn (tgt := 938) hx hb dL_law_40 (by rw [q26]; decide) (by rw [q26]; decide) (by rw [q26]; rfl) (by decide) ?_
        exact lc_gentleOf h_gentleOf C ex hi hcs hI hH hS hl kend
      by_cases q27 : x = 27
      · refine lv_tableIn (tgt := 963) hx hb dL_law_40 (by rw [q27]; decide) (by rw [q27]; decide) (by rw [q27]; rfl) (by decide) ?_
        exact lc_steady h_steady C ex hi hcs hI hH hS hl kend
      by_cases q28 : x = 28
      · refine lv_tableIn (tgt := 988) hx hb dL_law_40 (by rw [q28]; decide) (by rw [q28]; decide) (by rw [q28]; rfl) (by decide) ?_
        exact lc_steadyOf h_steadyOf C ex hi hcs hI hH hS hl kend
      by_cases q29 : x = 29
      · refine lv_tableIn (tgt := 1025) hx hb dL_law_40 (by rw [q29]; decide) (by rw [q29]; decide) (by rw [q29]; rfl) (by decide) ?_
        exact lc_level h_level C ex hi hcs hI hH hS hl kend
      by_cases q30 : x = 30
      · refine lv_tableIn (tgt := 1062) hx hb dL_law_40 (by rw [q30]; decide) (by rw [q30]; decide) (by rw [q30]; rfl) (by decide) ?_
        exact lc_trade h_trade C ex hi hcs hI hH hS hl kend
      by_cases q31 : x = 31
      · refine lv_tableIn (tgt := 1087) hx hb dL_law_40 (by rw [q31]; decide) (by rw [q31]; decide) (by rw [q31]; rfl) (by decide) ?_
        exact lc_reach h_reach C ex hi hcs hI hH hS hl kend
      by_cases q32 : x = 32
      · refine lv_tableIn (tgt := 1112) hx hb dL_law_40 (by rw [q32]; decide) (by rw [q32]; decide) (by rw [q32]; rfl) (by decide) ?_
        exact lc_next h_next C ex hi hcs hI hH hS hl kend
      by_cases q33 : x = 33
      · refine lv_tableIn (tgt := 1125) hx hb dL_law_40 (by rw [q33]; decide) (by rw [q33]; decide) (by rw [q33]; rfl) (by decide) ?_
        exact lc_gains h_gains C ex hi hcs hI hH hS hl kend
      by_cases q34 : x = 34
      · refine lv_tableIn (tgt := 1150) hx hb dL_law_40 (by rw [q34]; decide) (by rw [q34]; decide) (by rw [q34]; rfl) (by decide) ?_
        exact lc_share h_share C ex hi hcs hI hH hS hl kend
      by_cases q35 : x = 35
      · refine lv_tableIn (tgt := 1187) hx hb dL_law_40 (by rw [q35]; decide) (by rw [q35]; decide) (by rw [q35]; rfl) (by decide) ?_
        exact lc_write h_write C ex hi hcs hI hH hS hl kend
      by_cases q36 : x = 36
      · refine lv_tableIn (tgt := 1200) hx hb dL_law_40 (by rw [q36]; decide) (by rw [q36]; decide) (by rw [q36]; rfl) (by decide) ?_
        exact lc_octet h_octet C ex hi hcs hI hH hS hl kend
      by_cases q37 : x = 37
      · refine lv_tableIn (tgt := 1256) hx hb dL_law_40 (by rw [q37]; decide) (by rw [q37]; decide) (by rw [q37]; rfl) (by decide) ?_
        exact lc_price h_price C ex hi hcs hI hH hS hl kend
      by_cases q38 : x = 38
      · refine lv_tableIn (tgt := 1293) hx hb dL_law_40 (by rw [q38]; decide) (by rw [q38]; decide) (by rw [q38]; rfl) (by decide) ?_
        exact lc_lay h_lay C ex hi hcs hI hH hS hl kend
      by_cases q39 : x = 39
      · refine lv_tableIn (tgt := 1334) hx hb dL_law_40 (by rw [q39]; decide) (by rw [q39]; decide) (by rw [q39]; rfl) (by decide) ?_
        exact lc_quality h_quality C ex hi hcs hI hH hS hl kend
      by_cases q40 : x = 40
      · refine lv_tableIn (tgt := 1371) hx hb dL_law_40 (by rw [q40]; decide) (by rw [q40]; decide) (by rw [q40]; rfl) (by decide) ?_
        exact lc_become h_become C ex hi hcs hI hH hS hl kend
      by_cases q41 : x = 41
      · refine lv_tableIn (tgt := 1408) hx hb dL_law_40 (by rw [q41]; decide) (by rw [q41]; decide) (by rw [q41]; rfl) (by decide) ?_
        exact lc_year h_year C ex hi hcs hI hH hS hl kend
      by_cases q42 : x = 42
      · refine lv_tableIn (tgt := 1449) hx hb dL_law_40 (by rw [q42]; decide) (by rw [q42]; decide) (by rw [q42]; rfl) (by decide) ?_
        exact lc_undo h_undo C ex hi hcs hI hH hS hl kend
      by_cases q43 : x = 43
      · refine lv_tableIn (tgt := 1462) hx hb dL_law_40 (by rw [q43]; decide) (by rw [q43]; decide) (by rw [q43]; rfl) (by decide) ?_
        exact lc_keep h_keep C ex hi hcs hI hH hS hl kend
      by_cases q44 : x = 44
      · refine lv_tableIn (tgt := 1487) hx hb dL_law_40 (by rw [q44]; decide) (by rw [q44]; decide) (by rw [q44]; rfl) (by decide) ?_
        exact lc_back h_back C ex hi hcs hI hH hS hl kend
      by_cases q45 : x = 45
      · refine lv_tableIn (tgt := 1512) hx hb dL_law_40 (by rw [q45]; decide) (by rw [q45]; decide) (by rw [q45]; rfl) (by decide) ?_
        exact lc_book h_book C ex hi hcs hI hH hS hl kend
      by_cases q46 : x = 46
      · refine lv_tableIn (tgt := 1549) hx hb dL_law_40 (by rw [q46]; decide) (by rw [q46]; decide) (by rw [q46]; rfl) (by decide) ?_
        exact lc_letter h_letter C ex hi hcs hI hH hS hl kend
      by_cases q47 : x = 47
      · refine lv_tableIn (tgt := 1617) hx hb dL_law_40 (by rw [q47]; decide) (by rw [q47]; decide) (by rw [q47]; rfl) (by decide) ?_
        exact lc_bytes h_bytes C ex hi hcs hI hH hS hl kend
      by_cases q48 : x = 48
      · refine lv_tableIn (tgt := 1630) hx hb dL_law_40 (by rw [q48]; decide) (by rw [q48]; decide) (by rw [q48]; rfl) (by decide) ?_
        exact lc_trouble h_trouble C ex hi hcs hI hH hS hl kend
      refine lv_tableOut (tgt := 1643) hx hb dL_law_40 (tsw_0_48 q0 q1 q2 q3 q4 q5 q6 q7 q8 q9 q10 q11 q12 q13 q14 q15 q16 q17 q18 q19 q20 q21 q22 q23 q24 q25 q26 q27 q28 q29 q30 q31 q32 q33 q34 q35 q36 q37 q38 q39 q40 q41 q42 q43 q44 q45 q46 q47 q48) (by decide) ?_
      refine W.widen (k := 154 + j + 1) (n := 12000 + 6 * j + 6) (by omega) (by omega) ?_
      exact kend _ _ _ _ _ _ hI hH hS hl
