theorem ini_nse : Cond.initialized "java/util/NoSuchElementException" ∈ WS := tb1 (List.mem_of_getElem? (i := 23) (by decide +kernel)) rfl
theorem kl_X11_316 : Cond.classLink RX11 316 "java/util/NoSuchElementException" ∈ WS := tb5 (List.mem_of_getElem? (i := 215) (by decide +kernel)) rfl
theorem kl_L_13 : Cond.classLink RL 13 "java/util/NoSuchElementException" ∈ WS := tb5 (List.mem_of_getElem? (i := 210) (by decide +kernel)) rfl
theorem cw_L_octet : Cond.codeWith yL_octet cL_octet 4 (some .int) [(0, 9, 12, 13)] ∈ WS := tb5 (List.mem_of_getElem? (i := 209) (by decide +kernel)) rfl
theorem ms_L_octet : Cond.static yL_octet ∈ WS := tb5 (List.mem_of_getElem? (i := 208) (by decide +kernel)) rfl
theorem cw_L_letter : Cond.codeWith yL_letter cL_letter 5 (some .int) [(0, 10, 13, 13)] ∈ WS := tb6 (List.mem_of_getElem? (i := 38) (by decide +kernel)) rfl
theorem ms_L_letter : Cond.static yL_letter ∈ WS := tb6 (List.mem_of_getElem? (i := 37) (by decide +kernel)) rfl
theorem ini_L : Cond.initialized RL ∈ WS := tb1 (List.mem_of_getElem? (i := 0) (by decide +kernel)) rfl
def twL : List Cond := vx_at0 "BasketCap" 318 "java/util/NoSuchElementException" ["java/lang/RuntimeException", "java/lang/Exception"]
def isCD : Cond → Bool
  | .castable _ _ => true
  | .declares _ => true
  | _ => false
theorem tw_b : ∀ w ∈ twL, w ∈ tables_1 := by decide +kernel
theorem tw_c : ∀ w ∈ Cond.classLink RX11 316 "java/util/NoSuchElementException" :: Cond.initialized "java/util/NoSuchElementException" :: twL, vx_ot w = true := by decide +kernel
theorem tw_d : ∀ w ∈ twL, goodWord w = true ∨ isCD w = true := by decide +kernel
theorem tw_k : Cond.castable "java/util/NoSuchElementException" "java/util/NoSuchElementException" ∈ twL ∧ goodWord (Cond.castable "java/util/NoSuchElementException" "java/util/NoSuchElementException") = false := by decide +kernel
theorem cd_on {w : Cond} (h : isCD w = true) : w.onTables = true := by
  cases w <;> first | rfl | (cases h)
theorem cd_warm {w : Cond} (h : isCD w = true) {s U : State} (hW : s.WarmedH U.vm) (hZ : va_Nw w s) : va_Nw w U := by
  cases w <;> first | exact va_Nw.warmC hW hZ | exact va_Nw.warmD hW hZ | (cases h)
/-- what a throw takes of the start -/
def ExT (A : Nat → Prop) (U : State) (H : Heap) : Prop := (∀ w ∈ twL, goodWord w = false → va_Nw w U) ∧ vx_Zq Bundle.tN "UNASSIGNED_STACK" Bundle.steD A U H ∧ vx_Zq Bundle.tN "SUPPRESSED_SENTINEL" Bundle.listD A U H
theorem tw_cd {w : Cond} (hw : w ∈ twL) (hg : goodWord w = false) : isCD w = true := (tw_d w hw).elim (fun h => by rw [hg] at h; cases h) id
theorem ExT.on {A : Nat → Prop} {s U : State} {H : Heap} {locs : List Loc} (h : ExT A s s.heap) (hS : va_S A s.heap H locs) (hU : U.heap = H) (hW : s.WarmedH U.vm) : ExT A U U.heap := by
  obtain ⟨h1, h2, h3⟩ := h
  rw [hU]
  exact ⟨fun w hw hg => cd_warm (tw_cd hw hg) hW (h1 w hw hg), (h2.kept hS.2.1).moved hW.alike, (h3.kept hS.2.1).moved hW.alike⟩
theorem ExT.blind {A : Nat → Prop} {U : State} {g : JFrame} {mk : MethodId} {a : Array Value} (h : ExT A U U.heap) : ExT A (U.calling g mk a) (U.calling g mk a).heap := by
  obtain ⟨h1, h2, h3⟩ := h
  exact ⟨fun w hw hg => va_Nw.same (u := U) (U := U.calling g mk a) (cd_on (tw_cd hw hg)) rfl (h1 w hw hg), h2.moved (u := U) (U := U.calling g mk a) (Vm.Alike.refl U.vm), h3.moved (u := U) (U := U.calling g mk a) (Vm.Alike.refl U.vm)⟩
theorem ExT.narrow {A B : Nat → Prop} {U : State} {H : Heap} (h : ExT A U H) (hAB : ∀ q, B q → A q) : ExT B U H := ⟨h.1, h.2.1.narrow hAB, h.2.2.narrow hAB⟩
def QcX (G : Gv) (σ : Sto) (r : Option Int32) : Array Value → State → Outcome → State → Prop := fun _ st oc t => ∃ v : Int32, r = some v ∧ oc = .returned (some (.int v)) ∧ Hd G shC νC (ovC σ) t.heap ∧ va_F (gA G) st t
def XcX (G : Gv) (σ : Sto) (r : Option Int32) : String → State → State → Prop := fun E st t => r = none ∧ E = "java/util/NoSuchElementException" ∧ Hd G shC νC (ovC σ) t.heap ∧ va_F (gA G) st t
def ConX (l : Launch) (y : MethodName) (cc : ByteArray) (nL : Nat) (fr : Nat) (G : Gv) (vs : List Value) (σ : Sto) (r : Option Int32) : Prop :=
  vx_Met l y (.code y cc nL (some .int) :: WS) (rmD fr 1 6) (va_Pc (vs.map (cv G)) (fun U => (Cw G U ∧ ExT (gA G) U U.heap) ∧ Hd G shC νC (ovC σ) U.heap)) (QcX G σ r) (XcX G σ r) 1 6 (gA G)
theorem ConX_blind {G : Gv} {σ : Sto} {vs : List Value} : FrameBlind (va_Pc vs (fun U => (Cw G U ∧ ExT (gA G) U U.heap) ∧ Hd G shC νC (ovC σ) U.heap)) := by
  intro a U g mk q
  obtain ⟨q0, ⟨⟨qK, qE, qz⟩, qT⟩, qH⟩ := q
  exact ⟨q0, ⟨⟨va_K.moved (u := U) (U := U.calling g mk a) (Vm.Alike.refl U.vm) qK, Ex.blind qE, qz⟩, ExT.blind qT⟩, qH⟩
theorem ConX_enter {l : Launch} {y : MethodName} {cc : ByteArray} {nL : Nat} {fr : Nat} {G : Gv} {vs : List Value} {σ : Sto} {r : Option Int32} {own : String} (k : Nat) {lv : List (Option Value)}
    (hy : plainName y.cls = true) (ho : y.cls = own) (hs : (lg_sl (vs.map (cv G))).length ≤ nL) (hlv : lvI vs ++ List.replicate k none = lv)
    (body : ∀ {p : Program} {e : Env} {s : State} {m : MethodId} {args : Array Value} {below : List Frame} {meth : Method} {c : Code}, Cx p s m args meth c G cc nL own → meth.sig.returnType = some .int → ExT (gA G) s s.heap → (∀ x ∈ c.exceptionTable.toList, False) → AW p l e (rmD fr 1 6) s m args below meth c (vx_MQ below (QcX G σ r) (XcX G σ r) args s 1 6 (gA G)) 0 0 G nL 0 lv [] shC νC (ovC σ)) :
    ConX l y cc nL fr G vs σ r := by
  refine vx_ofW (cc := cc) (maxL := nL) (ret := some .int) hy rfl ?_
  intro p e s m args below meth c s₁ B hml htb hv
  obtain ⟨rfl, ⟨⟨hK, hE, hz⟩, hT⟩, hH⟩ := hv
  have hts := atoms_spec (ws := .code y cc nL (some .int) :: WS) B.pre
  have hown : s.vm.findClass own = some m.cls := by rw [← ho]; exact findClass_of_methodNamed B.named
  have hx : Cx p s m (vs.map (cv G)).toArray meth c G cc nL own := ⟨B.exec, B.bytes, hml, hown, fun w hw => hts w (List.mem_cons_of_mem _ hw), hK, hE, B.notSynchronized, hz⟩
  have hl := lv_entry (vs.map (cv G)) (n := nL) hs
  rw [lg_entry_eq]
  subst hlv
  exact body hx B.returns hT htb s.heap [] _ hH va_S.rf ⟨hl.1, hl.2.1, fun q hq => hl.2.2 q (lvI_in hq)⟩
theorem Hd.grow {G : Gv} {sh : Shp} {n : Nat} {σ : Sto} {H H1 : Heap} (h : Hd G sh (n, false) σ H) (z : H.size ≤ H1.size) (o : ∀ q : Nat, G.2.2.1.1 ≤ q → q < G.2.2.1.1 + n → H1[q]? = H[q]?) : Hd G sh (n, false) σ H1 :=
  ⟨fun k q hq => (h.1 k q hq).kept (by
    obtain ⟨hk, e⟩ := wl_get hq
    rw [e]
    exact o _ (Nat.le_add_right _ _) (Nat.add_lt_add_left hk _)), h.2.1, Nat.le_trans h.2.2.1 z, (fun q => by cases q), h.2.2.2.2⟩
section THR
variable {p : Program} {l : Launch} {e : Env} {R : Room} {s : State} {m : MethodId} {args : Array Value} {below : List Frame} {meth : Method} {c : Code}
variable {G : Gv} {cc : ByteArray} {nL : Nat} {pc : Nat} {lv : List (Option Value)} {σ : Sto}
theorem st_thr (h : Cx p s m args meth c G cc nL RX11) (hT : ExT (gA G) s s.heap) (hl : l.stackTraces = false) (htb : ∀ x ∈ c.exceptionTable.toList, False) (d0 : decode cc pc = .ok (.new 316, 3)) (d3 : decode cc (pc + 3) = .ok (.dup, 1)) (d4 : decode cc (pc + 4) = .ok (.invokespecial 318, 3)) (d7 : decode cc (pc + 7) = .ok (.athrow, 1)) (hR : 6 ≤ R.frames ∧ 100 ≤ R.locals ∧ 1 ≤ R.cells ∧ 6 ≤ R.slots) :
    AW p l e R s m args below meth c (vx_MQ below (QcX G σ none) (XcX G σ none) args s 1 6 (gA G)) 0 0 G nL pc lv [] shC νC (ovC σ) := by
  intro H locs ls hH hS hl'
  refine vx_throw0 (A := gA G) (own := RX11) (names := ["java/lang/RuntimeException", "java/lang/Exception"]) h.x h.b hl h.o (by decide +kernel) (by decide +kernel) (h.t _ kl_X11_316) (h.t _ ini_nse) (fun w hw => ?_) tw_c hT.2.1 hT.2.2 hS (hl'.1.trans h.ml.symm) d0 d3 d4 d7 (fun x hx => (htb x hx).elim) (by show 2 + 3 < R.frames; omega) (by show 0 + (13 * (2 + 1) + 42) ≤ R.locals; omega) (by omega) (by omega) h.lk (fun t ha hz ho => ⟨rfl, rfl, ?_, ?_⟩) hS.2.2 (Nat.le_refl _) (Nat.le_refl _)
  · have hw : w ∈ twL := hw
    cases hg : goodWord w with
    | true => exact h.t _ (ws_t (tw_b w hw) hg)
    | false => exact va_Nw.use (cd_on (tw_cd hw hg)) (hT.1 w hw hg)
  · exact hH.grow hz (fun q _ hq => ho q (Nat.lt_of_lt_of_le hq hH.2.2.1))
  · exact ⟨Nat.le_trans hS.1 hz, fun q h1 h2 => (ho q (Nat.lt_of_lt_of_le h1 hS.1)).trans (hS.2.1 q h1 h2)⟩
theorem st_iretX (h : Cx p s m args meth c G cc nL RX11) {v : Int32} (hr : meth.sig.returnType = some .int) (d : decode cc pc = .ok (.ireturn, 1)) : AW p l e R s m args below meth c (vx_MQ below (QcX G σ (some v)) (XcX G σ (some v)) args s 1 6 (gA G)) 0 0 G nL pc lv [.int v] shC νC (ovC σ) :=
  fun H locs ls hH hS hl => vx_ret (W.widen (k := 1) (n := 6) (Nat.zero_le _) (Nat.zero_le _) (W.iret (v := v) h.x h.b hr (fun t ht hW => ⟨v, rfl, rfl, by rw [ht]; exact hH, hS.F ht⟩) hS.2.2 d h.lk))
end THR
def F_X11_octet (σ : Sto) (i1 : Int32) : Option (Option Int32) := if i1 < 0 then some none else (if i1 < σ.1 0 15 then (if ib i1 11 then some (some (σ.1 101 (ix i1))) else none) else some none)
set_option maxRecDepth 100000 in
set_option maxHeartbeats 4000000 in
theorem w_X11_octet {l : Launch} (hl : l.stackTraces = false) {G : Gv} {σ : Sto} {i1 : Int32} {z : Option Int32} (hF : F_X11_octet σ i1 = some z) : ConX l yX11_octet cX11_octet 2 6 G [.ref 0, .int i1] σ z := by
  rw [F_X11_octet] at hF
  refine ConX_enter (own := RX11) 0 (lv := [some (.ref 0), some (.int i1)]) mi_X11_octet.2.2.2 rfl (Nat.le_of_ble_eq_true rfl) rfl (fun h hr hT htb => ?_)
  refine st_iload_1 h dX11_octet_0 ?_
  refine st_if_lt (t := 12) h dX11_octet_1 (by decide) (fun q1 => ?_) (fun q1 => ?_)
  · have hF := pI q1 hF
    cases hF
    exact st_thr h hT hl htb dX11_octet_12 dX11_octet_15 dX11_octet_16 dX11_octet_19 ⟨Nat.le_of_ble_eq_true rfl, Nat.le_of_ble_eq_true rfl, Nat.le_of_ble_eq_true rfl, Nat.le_of_ble_eq_true rfl⟩
  · have hF := qI q1 hF
    refine st_iload_1 h dX11_octet_4 ?_
    refine st_aload_0 h dX11_octet_5 ?_
    refine gX11_15 h fl_X11_310 dX11_octet_6 (congrArg Prod.fst kC_0) ?_
    refine st_icmp_lt (t := 20) h dX11_octet_9 (by decide) (fun q2 => ?_) (fun q2 => ?_)
    · have hF := pI q2 hF
      refine st_aload_0 h dX11_octet_20 ?_
      refine gX11_10 h fl_X11_77 dX11_octet_21 (congrArg Prod.fst kC_0) ?_
      refine st_iload_1 h dX11_octet_24 ?_
      obtain ⟨g1, hF⟩ := gI hF
      refine iaC h dX11_octet_25 kC_101 g1 ?_
      cases hF
      exact st_iretX h hr dX11_octet_26
    · have hF := qI q2 hF
      cases hF
      exact st_thr h hT hl htb dX11_octet_12 dX11_octet_15 dX11_octet_16 dX11_octet_19 ⟨Nat.le_of_ble_eq_true rfl, Nat.le_of_ble_eq_true rfl, Nat.le_of_ble_eq_true rfl, Nat.le_of_ble_eq_true rfl⟩
def F_X11_letter (σ : Sto) (i1 i2 : Int32) : Option (Option Int32) := (F_X11_noService σ i1).bind fun x1 => if x1 = 0 then (if i2 < 0 then some none else ((σ.2.2 0 11).bind fun x2 => if (shC x2).1 = 9 then (if ib i1 8 then ((F_X9_lengthOf σ (σ.2.1 (x2 + 1) (ix i1))).bind fun x3 => if i2 < x3 then ((F_X9_letterOf σ (σ.2.1 (x2 + 1) (ix i1)) i2).bind fun x4 => some (some x4)) else some none) else none) else none)) else some none
set_option maxRecDepth 100000 in
set_option maxHeartbeats 4000000 in
theorem w_X11_letter {l : Launch} (hl : l.stackTraces = false) {G : Gv} {σ : Sto} {i1 i2 : Int32} {z : Option Int32} (hF : F_X11_letter σ i1 i2 = some z) : ConX l yX11_letter cX11_letter 3 6 G [.ref 0, .int i1, .int i2] σ z := by
  rw [F_X11_letter] at hF
  refine ConX_enter (own := RX11) 0 (lv := [some (.ref 0), some (.int i1), some (.int i2)]) mi_X11_letter.2.2.2 rfl (Nat.le_of_ble_eq_true rfl) rfl (fun h hr hT htb => ?_)
  refine st_aload_0 h dX11_letter_0 ?_
  refine st_iload_1 h dX11_letter_1 ?_
  obtain ⟨x1, hx1, hF⟩ := bI hF
  refine st_cVi (vs := [.int i1]) (st := []) h (w_X11_noService hx1) mi_X11_noService mv_X11_noService ml_X11_176 dX11_letter_2 kC_0 rfl ⟨Nat.le_of_ble_eq_true rfl, Nat.le_of_ble_eq_true rfl⟩ (Nat.le_of_ble_eq_true rfl) rfl ?_
  refine st_if_ne (t := 28) h dX11_letter_5 (by decide) (fun q1 => ?_) (fun q1 => ?_)
  · have hF := qI q1 hF
    cases hF
    exact st_thr h hT hl htb dX11_letter_28 dX11_letter_31 dX11_letter_32 dX11_letter_35 ⟨Nat.le_of_ble_eq_true rfl, Nat.le_of_ble_eq_true rfl, Nat.le_of_ble_eq_true rfl, Nat.le_of_ble_eq_true rfl⟩
  · have hF := pI q1 hF
    refine st_iload_2 h dX11_letter_8 ?_
    refine st_if_lt (t := 28) h dX11_letter_9 (by decide) (fun q2 => ?_) (fun q2 => ?_)
    · have hF := pI q2 hF
      cases hF
      exact st_thr h hT hl htb dX11_letter_28 dX11_letter_31 dX11_letter_32 dX11_letter_35 ⟨Nat.le_of_ble_eq_true rfl, Nat.le_of_ble_eq_true rfl, Nat.le_of_ble_eq_true rfl, Nat.le_of_ble_eq_true rfl⟩
    · have hF := qI q2 hF
      refine st_iload_2 h dX11_letter_12 ?_
      refine st_aload_0 h dX11_letter_13 ?_
      obtain ⟨x2, hx2, hF⟩ := bI hF
      refine gX11_11 h fl_X11_83 dX11_letter_14 hx2 ?_
      obtain ⟨g1, hF⟩ := gI hF
      refine gX9_2 h fl_X11_363 dX11_letter_17 g1 ?_
      refine st_iload_1 h dX11_letter_20 ?_
      obtain ⟨g2, hF⟩ := gI hF
      refine laC h dX11_letter_21 (sk_9_2 g1) g2 ?_
      obtain ⟨x3, hx3, hF⟩ := bI hF
      refine st_cSi (vs := [.long (σ.2.1 (x2 + 1) (ix i1))]) (st := [.int i2]) h (w_X9_lengthOf hx3) mi_X9_lengthOf ms_X9_lengthOf ml_X11_367 dX11_letter_22 rfl ⟨Nat.le_of_ble_eq_true rfl, Nat.le_of_ble_eq_true rfl⟩ (Nat.le_of_ble_eq_true rfl) rfl ?_
      refine st_icmp_lt (t := 36) h dX11_letter_25 (by decide) (fun q3 => ?_) (fun q3 => ?_)
      · have hF := pI q3 hF
        refine st_aload_0 h dX11_letter_36 ?_
        refine gX11_11 h fl_X11_83 dX11_letter_37 hx2 ?_
        refine gX9_2 h fl_X11_363 dX11_letter_40 g1 ?_
        refine st_iload_1 h dX11_letter_43 ?_
        refine laC h dX11_letter_44 (sk_9_2 g1) g2 ?_
        refine st_iload_2 h dX11_letter_45 ?_
        obtain ⟨x4, hx4, hF⟩ := bI hF
        refine st_cSi (vs := [.long (σ.2.1 (x2 + 1) (ix i1)), .int i2]) (st := []) h (w_X9_letterOf hx4) mi_X9_letterOf ms_X9_letterOf ml_X11_371 dX11_letter_46 rfl ⟨Nat.le_of_ble_eq_true rfl, Nat.le_of_ble_eq_true rfl⟩ (Nat.le_of_ble_eq_true rfl) rfl ?_
        cases hF
        exact st_iretX h hr dX11_letter_49
      · have hF := qI q3 hF
        cases hF
        exact st_thr h hT hl htb dX11_letter_28 dX11_letter_31 dX11_letter_32 dX11_letter_35 ⟨Nat.le_of_ble_eq_true rfl, Nat.le_of_ble_eq_true rfl, Nat.le_of_ble_eq_true rfl, Nat.le_of_ble_eq_true rfl⟩
/-! the law's two helpers -/
abbrev oW (G : Gv) (bO : Nat) (f : Nat → Int64) : va_W := [(bO, .inl (G.2.1 1, 1, .inr (.inl f)))]
abbrev oA (G : Gv) (bO : Nat) : Nat → Prop := fun q => q = bO ∨ gA G q
def QcO (G : Gv) (bO : Nat) (σ : Sto) (r : Option Int32) (f : Nat → Int64) : Array Value → State → Outcome → State → Prop := fun _ st oc t => ∃ (k : Int32) (f' : Nat → Int64), oc = .returned (some (.int k)) ∧ ((r = none ∧ k = 1 ∧ f' = f) ∨ ∃ v : Int32, r = some v ∧ k = 0 ∧ f' 0 = v.toInt64) ∧ Hd G shC νC (ovC σ) t.heap ∧ va_P G.1 vwCl (oW G bO f') t.heap ∧ va_F (oA G bO) st t
def PcO (G : Gv) (bO : Nat) (σ : Sto) (f : Nat → Int64) (U : State) : Prop := (Cw G U ∧ ExT (gA G) U U.heap) ∧ Hd G shC νC (ovC σ) U.heap ∧ va_P G.1 vwCl (oW G bO f) U.heap ∧ ¬ gA G bO
def ConO (l : Launch) (y : MethodName) (cc : ByteArray) (nL : Nat) (hh : List (Nat × Nat × Nat × Nat)) (fr : Nat) (G : Gv) (bO : Nat) (vs : List Value) (σ : Sto) (r : Option Int32) (f : Nat → Int64) : Prop :=
  Met l y (.codeWith y cc nL (some .int) hh :: WS) (rmD fr 1 6) (va_Pc (Value.ref G.2.2.1.1 :: vs ++ [.ref bO]) (PcO G bO σ f)) (QcO G bO σ r f) 1 6 (oA G bO)
theorem ConO_blind {G : Gv} {bO : Nat} {σ : Sto} {f : Nat → Int64} {vs : List Value} : FrameBlind (va_Pc vs (PcO G bO σ f)) := by
  intro a U g mk q
  obtain ⟨q0, ⟨⟨qK, qE, qz⟩, qT⟩, qH, qO, qn⟩ := q
  exact ⟨q0, ⟨⟨va_K.moved (u := U) (U := U.calling g mk a) (Vm.Alike.refl U.vm) qK, Ex.blind qE, qz⟩, ExT.blind qT⟩, qH, qO, qn⟩
theorem oD {G : Gv} {bO : Nat} {σ : Sto} {f : Nat → Int64} (hn : G.2.2.1.2 = 0 ∨ G.2.2.1.1 + 134 ≤ G.2.2.1.2) (hb : ¬ gA G bO) : va_D (oA G bO) (wl G shC 134 (ovC σ) ++ oW G bO f) := by
  have h1 := wl_D (G := G) (sh := shC) (n := 134) (σ := ovC σ) hn
  refine va_D.app (h1.weaken (fun k q _ h => Or.inr h)) ⟨fun i j x y hi hj _ => ?_, fun k q hk => ?_⟩ (fun i j x y hx hy hxy => ?_)
  · have a1 : i < 1 := (List.getElem?_eq_some_iff.mp hi).1
    have a2 : j < 1 := (List.getElem?_eq_some_iff.mp hj).1
    omega
  · have a1 : k < 1 := (List.getElem?_eq_some_iff.mp hk).1
    rw [show k = 0 by omega] at hk
    cases hk
    exact Or.inl rfl
  · have a1 : j < 1 := (List.getElem?_eq_some_iff.mp hy).1
    rw [show j = 0 by omega] at hy
    cases hy
    refine hb ?_
    have := h1.2 i x hx
    rw [hxy] at this
    exact this
set_option maxRecDepth 100000 in
set_option maxHeartbeats 4000000 in
theorem w_L_octet {l : Launch} (hlt : l.stackTraces = false) {G : Gv} {bO : Nat} {σ : Sto} {f : Nat → Int64} {p0 : Int32} {z : Option Int32} (hF : F_X11_octet σ p0 = some z) : ConO l yL_octet cL_octet 4 [(0, 9, 12, 13)] 7 G bO [.int p0] σ z f := by
  refine va_MetW (cc := cL_octet) (maxL := 4) (ret := some .int) (by decide +kernel) rfl ?_
  intro p e s m args below meth c s₁ B hml hv
  obtain ⟨rfl, ⟨⟨hK, hE, hz⟩, hT⟩, hH, hO, hn⟩ := hv
  have hts := atoms_spec (ws := .codeWith yL_octet cL_octet 4 (some .int) [(0, 9, 12, 13)] :: WS) B.pre
  have hown : s.vm.findClass RL = some m.cls := findClass_of_methodNamed B.named
  have hx := B.exec
  have hb := B.bytes
  have hr := B.returns
  have hlocks := B.notSynchronized
  have htab := vx_table (x := yL_octet) B (hts _ List.mem_cons_self)
  have hw : ∀ w ∈ WS, w.before (Value.ref G.2.2.1.1 :: [.int p0] ++ [Value.ref bO]).toArray s = true := fun w hw => hts w (List.mem_cons_of_mem _ hw)
  have hC : Cx p s m (Value.ref G.2.2.1.1 :: [.int p0] ++ [Value.ref bO]).toArray meth c G cL_octet 4 RL := ⟨hx, hb, hml, hown, hw, hK, hE, hlocks, hz⟩
  have hS : va_S (oA G bO) s.heap s.heap [] := va_S.rf
  have hl := lv_entry ([.ref G.2.2.1.1, .int p0, .ref bO]) (n := 4) (Nat.le_of_ble_eq_true rfl)
  show W p l e _ s m _ below meth c s.heap [] 0 0 _ (entryFrame m ([.ref G.2.2.1.1, .int p0, .ref bO] : List Value).toArray 4)
  rw [lg_entry_eq]
  generalize (lg_sl ([.ref G.2.2.1.1, .int p0, .ref bO]) ++ List.replicate (4 - (lg_sl ([.ref G.2.2.1.1, .int p0, .ref bO])).length) Slot.unset).toArray = ls at hl ⊢
  have hl : lv_has ls 4 [(0, .ref G.2.2.1.1), (1, .int p0), (2, .ref bO)] := hl
  refine lv_aload_n hx hb dL_octet_0 rfl (lv_at hl 2 rfl) ?_
  refine lv_iconst (v := 0) hx hb dL_octet_1 (by decide) ?_
  refine lv_aload_n hx hb dL_octet_2 rfl (lv_at hl 0 rfl) ?_
  refine lv_iload_n hx hb dL_octet_3 rfl (lv_at hl 1 rfl) ?_
  have hrun := vx_runV (C := RX11) (b := G.2.2.1.1) (As := [.int p0]) (rest := [.int 0, .ref bO]) (n := 1) (g := F0 m 4 ls ([.int p0, .ref G.2.2.1.1, .int 0, .ref bO])) (H := s.heap) (locs := []) (cells := 0) (slots := 0) (l := l) (p := p) (e := e) (R := rmD 7 1 6) (below := below) (meth := meth) ⟨hx, hb, hml, hown, hw⟩ (w_X11_octet hlt (G := G) hF) ⟨callB_of 1 hw mi_X11_octet.good rfl rfl rfl (hw _ mi_X11_octet.1) (hw _ ml_L_7) mi_X11_octet.2.2.1 ⟨Nat.le_of_ble_eq_true rfl, Nat.le_of_ble_eq_true rfl⟩, hw _ mv_X11_octet.1, hw _ mv_X11_octet.2.1⟩ ⟨ConX_blind, va_recv hK hH.1 (ci := 11) (q0 := 0) rfl (by rw [wl_at (show 0 < νC.1 from by decide), ce_at kC_0, cer_o (by decide)]; rfl), fun U hU hW => ⟨rfl, ⟨hC.on (va_S.rf : va_S (gA G) s.heap s.heap []) hU hW, ExT.on hT (va_S.rf : va_S (gA G) s.heap s.heap []) hU hW⟩, by rw [hU]; exact hH⟩⟩ rfl rfl hl.1 rfl (by show 2 * 0 + 2 ≤ 8; decide) dL_octet_4 ⟨Nat.le_of_ble_eq_true rfl, Nat.le_of_ble_eq_true rfl⟩
  intro T hT9 X
  have hzO : bO < s.heap.size := (hO 0 _ rfl).lt
  rcases hrun T hT9 X with ⟨v, st₀, t, T', L, h0, X', hL, e1, e2, ⟨v', hr', hv, hH', hF'⟩, st⟩ | ⟨q, st₀, t, T', L, E, ce, h0, X', hL, e1, e2, ⟨hr', hE', hH', hF'⟩, hce, hcv, hcl, st⟩
  · cases hv
    obtain ⟨hF1, hF2⟩ := hF'
    rw [h0] at hF1 hF2
    have hS1 : va_S (oA G bO) s.heap T'.heap ([] ++ L) := ⟨by rw [e1]; exact hF1, fun q h1 h2 => by rw [e1]; exact hF2 q h1 (fun h => h2 (Or.inr h)), fun q hq => Or.inr (hL q (by simpa using hq))⟩
    have hO1 : va_P G.1 vwCl (oW G bO f) T'.heap := fun k x hk => by
      have a1 : k < 1 := (List.getElem?_eq_some_iff.mp hk).1
      rw [show k = 0 by omega] at hk
      cases hk
      refine (hO 0 _ rfl).kept ?_
      show T'.heap[bO]? = s.heap[bO]?
      rw [e1]
      exact hF2 bO hzO hn
    rw [← e1] at hH'
    have key : W p l e (rmD 7 1 6) s m (Value.ref G.2.2.1.1 :: [.int p0] ++ [Value.ref bO]).toArray below meth c T'.heap ([] ++ L) (0 + 1) (0 + 6) (MQ below (QcO G bO σ z f) (Value.ref G.2.2.1.1 :: [.int p0] ++ [Value.ref bO]).toArray s 1 6 (oA G bO)) (F0 m (4 + 3) ls [.int v', .int 0, .ref bO]) := by
      refine lv_i2l hx hb dL_octet_7 rfl ?_
      have hP9 : va_P G.1 vwCl (wl G shC 134 (ovC σ) ++ oW G bO f) T'.heap := va_P.app hH'.1 hO1
      refine va_last hx hb hK hP9 (oD hH'.2.2.2.2 hn) hS1 134 1 (cA := G.2.1 1) (n := 1) (f := f) (by rw [List.getElem?_append_right (by simp [wl])]; simp [wl]) rfl (show ib 0 1 from by decide) dL_octet_8 (fun H1 locs1 hP hD hS2 => ?_)
      rw [List.set_append_right _ _ (by simp [wl])] at hP
      simp only [wl, List.length_map, List.length_range, Nat.sub_self, List.set_cons_zero] at hP
      refine lv_goto (tgt := 15) hx hb dL_octet_9 (by decide) ?_
      refine lv_iconst (v := 0) hx hb dL_octet_15 (by decide) ?_
      have hA : va_P G.1 vwCl (wl G shC 134 (ovC σ)) H1 := fun k x hk => hP k x (by rw [List.getElem?_append_left (by simpa [wl] using (List.getElem?_eq_some_iff.mp hk).1)]; exact hk)
      have hB : va_P G.1 vwCl (oW G bO (vp_updL f (Int32.toNatClampNeg 0) v'.toInt64)) H1 := fun k x hk => hP (134 + k) x (by rw [List.getElem?_append_right (by simp)]; simpa using hk)
      have hC9 : vp_updL f (Int32.toNatClampNeg 0) v'.toInt64 0 = v'.toInt64 := by
        have e0 : Int32.toNatClampNeg 0 = 0 := by decide
        rw [e0]
        simp [vp_updL]
      exact W.iret (v := 0) hx hb hr (fun t ht hW => ⟨0, vp_updL f (Int32.toNatClampNeg 0) v'.toInt64, rfl, Or.inr ⟨v', hr', rfl, hC9⟩, ⟨by rw [ht]; exact hA, hH'.2.1, by rw [ht]; exact Nat.le_trans hH.2.2.1 hS2.1, (fun q => by cases q), hH'.2.2.2.2⟩, by rw [ht]; exact hB, hS2.F ht⟩) hS2.2.2 dL_octet_16 hlocks
    obtain ⟨t2, a1, b1⟩ := key T' rfl X'
    exact ⟨t2, st t2 a1, b1⟩
  · subst hE'
    obtain ⟨hF1, hF2⟩ := hF'
    rw [h0] at hF1 hF2
    have hS1 : va_S (oA G bO) s.heap T'.heap ([] ++ L) := ⟨by rw [e1]; exact hF1, fun q h1 h2 => by rw [e1]; exact hF2 q h1 (fun h => h2 (Or.inr h)), fun q hq => Or.inr (hL q (by simpa using hq))⟩
    have hO1 : va_P G.1 vwCl (oW G bO f) T'.heap := fun k x hk => by
      have a1 : k < 1 := (List.getElem?_eq_some_iff.mp hk).1
      rw [show k = 0 by omega] at hk
      cases hk
      refine (hO 0 _ rfl).kept ?_
      show T'.heap[bO]? = s.heap[bO]?
      rw [e1]
      exact hF2 bO hzO hn
    rw [← e1] at hH'
    have key : vx_W p l e (rmD 7 1 6) s m (Value.ref G.2.2.1.1 :: [.int p0] ++ [Value.ref bO]).toArray below meth c T'.heap ([] ++ L) (0 + 1) (0 + 6) (MQ below (QcO G bO σ z f) (Value.ref G.2.2.1.1 :: [.int p0] ++ [Value.ref bO]).toArray s 1 6 (oA G bO)) (F0 m 4 ls [.int 0, .ref bO]) q := by
      refine vx_catch (name := "java/util/NoSuchElementException") hown [] ⟨0, 9, 12, 13⟩ [] htab (fun _ h => nomatch h) (by decide) (by decide) (hw _ kl_L_13) (va_Nw.use rfl (hT.1 _ tw_k.1 tw_k.2)) (by rw [e1]; exact hce) hcv hcl ?_
      refine lv_astore_n (lv' := [(3, .ref q), (0, .ref G.2.2.1.1), (1, .int p0), (2, .ref bO)]) hx hb dL_octet_12 rfl hl (by decide) rfl (fun ls hl => ?_)
      refine lv_iconst (v := 1) hx hb dL_octet_13 (by decide) ?_
      exact W.iret (v := 1) hx hb hr (fun t ht hW => ⟨1, f, rfl, Or.inl ⟨hr', rfl, rfl⟩, by rw [ht]; exact hH', by rw [ht]; exact hO1, hS1.F ht⟩) hS1.2.2 dL_octet_14 hlocks
    obtain ⟨t2, a1, b1⟩ := key T' rfl X'
    exact ⟨t2, st.trans a1, b1⟩
set_option maxRecDepth 100000 in
set_option maxHeartbeats 4000000 in
theorem w_L_letter {l : Launch} (hlt : l.stackTraces = false) {G : Gv} {bO : Nat} {σ : Sto} {f : Nat → Int64} {p0 p1 : Int32} {z : Option Int32} (hF : F_X11_letter σ p0 p1 = some z) : ConO l yL_letter cL_letter 5 [(0, 10, 13, 13)] 7 G bO [.int p0, .int p1] σ z f := by
  refine va_MetW (cc := cL_letter) (maxL := 5) (ret := some .int) (by decide +kernel) rfl ?_
  intro p e s m args below meth c s₁ B hml hv
  obtain ⟨rfl, ⟨⟨hK, hE, hz⟩, hT⟩, hH, hO, hn⟩ := hv
  have hts := atoms_spec (ws := .codeWith yL_letter cL_letter 5 (some .int) [(0, 10, 13, 13)] :: WS) B.pre
  have hown : s.vm.findClass RL = some m.cls := findClass_of_methodNamed B.named
  have hx := B.exec
  have hb := B.bytes
  have hr := B.returns
  have hlocks := B.notSynchronized
  have htab := vx_table (x := yL_letter) B (hts _ List.mem_cons_self)
  have hw : ∀ w ∈ WS, w.before (Value.ref G.2.2.1.1 :: [.int p0, .int p1] ++ [Value.ref bO]).toArray s = true := fun w hw => hts w (List.mem_cons_of_mem _ hw)
  have hC : Cx p s m (Value.ref G.2.2.1.1 :: [.int p0, .int p1] ++ [Value.ref bO]).toArray meth c G cL_letter 5 RL := ⟨hx, hb, hml, hown, hw, hK, hE, hlocks, hz⟩
  have hS : va_S (oA G bO) s.heap s.heap [] := va_S.rf
  have hl := lv_entry ([.ref G.2.2.1.1, .int p0, .int p1, .ref bO]) (n := 5) (Nat.le_of_ble_eq_true rfl)
  show W p l e _ s m _ below meth c s.heap [] 0 0 _ (entryFrame m ([.ref G.2.2.1.1, .int p0, .int p1, .ref bO] : List Value).toArray 5)
  rw [lg_entry_eq]
  generalize (lg_sl ([.ref G.2.2.1.1, .int p0, .int p1, .ref bO]) ++ List.replicate (5 - (lg_sl ([.ref G.2.2.1.1, .int p0, .int p1, .ref bO])).length) Slot.unset).toArray = ls at hl ⊢
  have hl : lv_has ls 5 [(0, .ref G.2.2.1.1), (1, .int p0), (2, .int p1), (3, .ref bO)] := hl
  refine lv_aload_n hx hb dL_letter_0 rfl (lv_at hl 3 rfl) ?_
  refine lv_iconst (v := 0) hx hb dL_letter_1 (by decide) ?_
  refine lv_aload_n hx hb dL_letter_2 rfl (lv_at hl 0 rfl) ?_
  refine lv_iload_n hx hb dL_letter_3 rfl (lv_at hl 1 rfl) ?_
  refine lv_iload_n hx hb dL_letter_4 rfl (lv_at hl 2 rfl) ?_
  have hrun := vx_runV (C := RX11) (b := G.2.2.1.1) (As := [.int p0, .int p1]) (rest := [.int 0, .ref bO]) (n := 2) (g := F0 m 5 ls ([.int p1, .int p0, .ref G.2.2.1.1, .int 0, .ref bO])) (H := s.heap) (locs := []) (cells := 0) (slots := 0) (l := l) (p := p) (e := e) (R := rmD 7 1 6) (below := below) (meth := meth) ⟨hx, hb, hml, hown, hw⟩ (w_X11_letter hlt (G := G) hF) ⟨callB_of 2 hw mi_X11_letter.good rfl rfl rfl (hw _ mi_X11_letter.1) (hw _ ml_L_15) mi_X11_letter.2.2.1 ⟨Nat.le_of_ble_eq_true rfl, Nat.le_of_ble_eq_true rfl⟩, hw _ mv_X11_letter.1, hw _ mv_X11_letter.2.1⟩ ⟨ConX_blind, va_recv hK hH.1 (ci := 11) (q0 := 0) rfl (by rw [wl_at (show 0 < νC.1 from by decide), ce_at kC_0, cer_o (by decide)]; rfl), fun U hU hW => ⟨rfl, ⟨hC.on (va_S.rf : va_S (gA G) s.heap s.heap []) hU hW, ExT.on hT (va_S.rf : va_S (gA G) s.heap s.heap []) hU hW⟩, by rw [hU]; exact hH⟩⟩ rfl rfl hl.1 rfl (by show 2 * 0 + 2 ≤ 8; decide) dL_letter_5 ⟨Nat.le_of_ble_eq_true rfl, Nat.le_of_ble_eq_true rfl⟩
  intro T hT9 X
  have hzO : bO < s.heap.size := (hO 0 _ rfl).lt
  rcases hrun T hT9 X with ⟨v, st₀, t, T', L, h0, X', hL, e1, e2, ⟨v', hr', hv, hH', hF'⟩, st⟩ | ⟨q, st₀, t, T', L, E, ce, h0, X', hL, e1, e2, ⟨hr', hE', hH', hF'⟩, hce, hcv, hcl, st⟩
  · cases hv
    obtain ⟨hF1, hF2⟩ := hF'
    rw [h0] at hF1 hF2
    have hS1 : va_S (oA G bO) s.heap T'.heap ([] ++ L) := ⟨by rw [e1]; exact hF1, fun q h1 h2 => by rw [e1]; exact hF2 q h1 (fun h => h2 (Or.inr h)), fun q hq => Or.inr (hL q (by simpa using hq))⟩
    have hO1 : va_P G.1 vwCl (oW G bO f) T'.heap := fun k x hk => by
      have a1 : k < 1 := (List.getElem?_eq_some_iff.mp hk).1
      rw [show k = 0 by omega] at hk
      cases hk
      refine (hO 0 _ rfl).kept ?_
      show T'.heap[bO]? = s.heap[bO]?
      rw [e1]
      exact hF2 bO hzO hn
    rw [← e1] at hH'
    have key : W p l e (rmD 7 1 6) s m (Value.ref G.2.2.1.1 :: [.int p0, .int p1] ++ [Value.ref bO]).toArray below meth c T'.heap ([] ++ L) (0 + 1) (0 + 6) (MQ below (QcO G bO σ z f) (Value.ref G.2.2.1.1 :: [.int p0, .int p1] ++ [Value.ref bO]).toArray s 1 6 (oA G bO)) (F0 m (5 + 3) ls [.int v', .int 0, .ref bO]) := by
      refine lv_i2l hx hb dL_letter_8 rfl ?_
      have hP9 : va_P G.1 vwCl (wl G shC 134 (ovC σ) ++ oW G bO f) T'.heap := va_P.app hH'.1 hO1
      refine va_last hx hb hK hP9 (oD hH'.2.2.2.2 hn) hS1 134 1 (cA := G.2.1 1) (n := 1) (f := f) (by rw [List.getElem?_append_right (by simp [wl])]; simp [wl]) rfl (show ib 0 1 from by decide) dL_letter_9 (fun H1 locs1 hP hD hS2 => ?_)
      rw [List.set_append_right _ _ (by simp [wl])] at hP
      simp only [wl, List.length_map, List.length_range, Nat.sub_self, List.set_cons_zero] at hP
      refine lv_goto (tgt := 17) hx hb dL_letter_10 (by decide) ?_
      refine lv_iconst (v := 0) hx hb dL_letter_17 (by decide) ?_
      have hA : va_P G.1 vwCl (wl G shC 134 (ovC σ)) H1 := fun k x hk => hP k x (by rw [List.getElem?_append_left (by simpa [wl] using (List.getElem?_eq_some_iff.mp hk).1)]; exact hk)
      have hB : va_P G.1 vwCl (oW G bO (vp_updL f (Int32.toNatClampNeg 0) v'.toInt64)) H1 := fun k x hk => hP (134 + k) x (by rw [List.getElem?_append_right (by simp)]; simpa using hk)
      have hC9 : vp_updL f (Int32.toNatClampNeg 0) v'.toInt64 0 = v'.toInt64 := by
        have e0 : Int32.toNatClampNeg 0 = 0 := by decide
        rw [e0]
        simp [vp_updL]
      exact W.iret (v := 0) hx hb hr (fun t ht hW => ⟨0, vp_updL f (Int32.toNatClampNeg 0) v'.toInt64, rfl, Or.inr ⟨v', hr', rfl, hC9⟩, ⟨by rw [ht]; exact hA, hH'.2.1, by rw [ht]; exact Nat.le_trans hH.2.2.1 hS2.1, (fun q => by cases q), hH'.2.2.2.2⟩, by rw [ht]; exact hB, hS2.F ht⟩) hS2.2.2 dL_letter_18 hlocks
    obtain ⟨t2, a1, b1⟩ := key T' rfl X'
    exact ⟨t2, st t2 a1, b1⟩
  · subst hE'
    obtain ⟨hF1, hF2⟩ := hF'
    rw [h0] at hF1 hF2
    have hS1 : va_S (oA G bO) s.heap T'.heap ([] ++ L) := ⟨by rw [e1]; exact hF1, fun q h1 h2 => by rw [e1]; exact hF2 q h1 (fun h => h2 (Or.inr h)), fun q hq => Or.inr (hL q (by simpa using hq))⟩
    have hO1 : va_P G.1 vwCl (oW G bO f) T'.heap := fun k x hk => by
      have a1 : k < 1 := (List.getElem?_eq_some_iff.mp hk).1
      rw [show k = 0 by omega] at hk
      cases hk
      refine (hO 0 _ rfl).kept ?_
      show T'.heap[bO]? = s.heap[bO]?
      rw [e1]
      exact hF2 bO hzO hn
    rw [← e1] at hH'
    have key : vx_W p l e (rmD 7 1 6) s m (Value.ref G.2.2.1.1 :: [.int p0, .int p1] ++ [Value.ref bO]).toArray below meth c T'.heap ([] ++ L) (0 + 1) (0 + 6) (MQ below (QcO G bO σ z f) (Value.ref G.2.2.1.1 :: [.int p0, .int p1] ++ [Value.ref bO]).toArray s 1 6 (oA G bO)) (F0 m 5 ls [.int 0, .ref bO]) q := by
      refine vx_catch (name := "java/util/NoSuchElementException") hown [] ⟨0, 10, 13, 13⟩ [] htab (fun _ h => nomatch h) (by decide) (by decide) (hw _ kl_L_13) (va_Nw.use rfl (hT.1 _ tw_k.1 tw_k.2)) (by rw [e1]; exact hce) hcv hcl ?_
      refine lv_astore (lv' := [(4, .ref q), (0, .ref G.2.2.1.1), (1, .int p0), (2, .int p1), (3, .ref bO)]) hx hb dL_letter_13 hl (by decide) rfl (fun ls hl => ?_)
      refine lv_iconst (v := 1) hx hb dL_letter_15 (by decide) ?_
      exact W.iret (v := 1) hx hb hr (fun t ht hW => ⟨1, f, rfl, Or.inl ⟨hr', rfl, rfl⟩, by rw [ht]; exact hH', by rw [ht]; exact hO1, hS1.F ht⟩) hS1.2.2 dL_letter_16 hlocks
    obtain ⟨t2, a1, b1⟩ := key T' rfl X'
    exact ⟨t2, st.trans a1, b1⟩
