theorem kl_L_8 : Cond.classLink RL 8 RX11 ∈ WS := tb1 (List.mem_of_getElem? (i := 24) (by decide +kernel)) rfl
theorem ins_X11 : Cond.instantiable RX11 19 ∈ WS := tb1 (List.mem_of_getElem? (i := 25) (by decide +kernel)) rfl
theorem kl_X11_13 : Cond.classLink RX11 13 RX6 ∈ WS := tb1 (List.mem_of_getElem? (i := 32) (by decide +kernel)) rfl
theorem ins_X6 : Cond.instantiable RX6 11 ∈ WS := tb1 (List.mem_of_getElem? (i := 33) (by decide +kernel)) rfl
theorem kl_X11_20 : Cond.classLink RX11 20 RX10 ∈ WS := tb1 (List.mem_of_getElem? (i := 75) (by decide +kernel)) rfl
theorem ins_X10 : Cond.instantiable RX10 6 ∈ WS := tb1 (List.mem_of_getElem? (i := 76) (by decide +kernel)) rfl
theorem kl_X11_27 : Cond.classLink RX11 27 RX0 ∈ WS := tb1 (List.mem_of_getElem? (i := 114) (by decide +kernel)) rfl
theorem ins_X0 : Cond.instantiable RX0 1 ∈ WS := tb1 (List.mem_of_getElem? (i := 115) (by decide +kernel)) rfl
theorem kl_X11_34 : Cond.classLink RX11 34 RX5 ∈ WS := tb1 (List.mem_of_getElem? (i := 124) (by decide +kernel)) rfl
theorem ins_X5 : Cond.instantiable RX5 3 ∈ WS := tb1 (List.mem_of_getElem? (i := 125) (by decide +kernel)) rfl
theorem kl_X5_9 : Cond.classLink RX5 9 RX10 ∈ WS := tb1 (List.mem_of_getElem? (i := 130) (by decide +kernel)) rfl
theorem kl_X11_41 : Cond.classLink RX11 41 RX3 ∈ WS := tb1 (List.mem_of_getElem? (i := 144) (by decide +kernel)) rfl
theorem kl_X11_47 : Cond.classLink RX11 47 RX8 ∈ WS := tb1 (List.mem_of_getElem? (i := 146) (by decide +kernel)) rfl
theorem ins_X8 : Cond.instantiable RX8 15 ∈ WS := tb1 (List.mem_of_getElem? (i := 147) (by decide +kernel)) rfl
theorem kl_X11_54 : Cond.classLink RX11 54 RX2 ∈ WS := tb1 (List.mem_of_getElem? (i := 198) (by decide +kernel)) rfl
theorem ins_X2 : Cond.instantiable RX2 7 ∈ WS := tb1 (List.mem_of_getElem? (i := 199) (by decide +kernel)) rfl
theorem kl_X2_9 : Cond.classLink RX2 9 RX7 ∈ WS := tb1 (List.mem_of_getElem? (i := 204) (by decide +kernel)) rfl
theorem ins_X7 : Cond.instantiable RX7 4 ∈ WS := tb1 (List.mem_of_getElem? (i := 205) (by decide +kernel)) rfl
theorem kl_X11_63 : Cond.classLink RX11 63 RX4 ∈ WS := tb2 (List.mem_of_getElem? (i := 12) (by decide +kernel)) rfl
theorem ins_X4 : Cond.instantiable RX4 11 ∈ WS := tb2 (List.mem_of_getElem? (i := 13) (by decide +kernel)) rfl
theorem kl_X4_9 : Cond.classLink RX4 9 RX7 ∈ WS := tb2 (List.mem_of_getElem? (i := 18) (by decide +kernel)) rfl
theorem kl_X4_18 : Cond.classLink RX4 18 RX10 ∈ WS := tb2 (List.mem_of_getElem? (i := 20) (by decide +kernel)) rfl
theorem kl_X11_70 : Cond.classLink RX11 70 RX1 ∈ WS := tb2 (List.mem_of_getElem? (i := 58) (by decide +kernel)) rfl
theorem ins_X1 : Cond.instantiable RX1 2 ∈ WS := tb2 (List.mem_of_getElem? (i := 59) (by decide +kernel)) rfl
theorem kl_X11_80 : Cond.classLink RX11 80 RX9 ∈ WS := tb2 (List.mem_of_getElem? (i := 72) (by decide +kernel)) rfl
theorem ins_X9 : Cond.instantiable RX9 9 ∈ WS := tb2 (List.mem_of_getElem? (i := 73) (by decide +kernel)) rfl
theorem ins_X3 : Cond.instantiable RX3 3 ∈ WS := tb2 (List.mem_of_getElem? (i := 135) (by decide +kernel)) rfl
theorem kl_X3_7 : Cond.classLink RX3 7 RX10 ∈ WS := tb2 (List.mem_of_getElem? (i := 140) (by decide +kernel)) rfl
theorem kl_X3_16 : Cond.classLink RX3 16 RX0 ∈ WS := tb2 (List.mem_of_getElem? (i := 142) (by decide +kernel)) rfl
theorem kl_L_20 : Cond.classLink RL 20 RX12 ∈ WS := tb6 (List.mem_of_getElem? (i := 51) (by decide +kernel)) rfl
theorem ins_X12 : Cond.instantiable RX12 51 ∈ WS := tb6 (List.mem_of_getElem? (i := 52) (by decide +kernel)) rfl
theorem oi_1 : Cond.instanceMethod objectInit ∈ WS := tb1 (List.mem_of_getElem? (i := 30) (by decide +kernel)) rfl
theorem oi_2 : Cond.code objectInit ⟨#[0xb1]⟩ 1 none ∈ WS := tb1 (List.mem_of_getElem? (i := 31) (by decide +kernel)) rfl
theorem ac_int : Cond.arrayClass .int ∈ WS := tb1 (List.mem_of_getElem? (i := 74) (by decide +kernel)) rfl
theorem ac_long : Cond.arrayClass .long ∈ WS := tb2 (List.mem_of_getElem? (i := 134) (by decide +kernel)) rfl
theorem ac_boolean : Cond.arrayClass .boolean ∈ WS := tb6 (List.mem_of_getElem? (i := 211) (by decide +kernel)) rfl
abbrev CSt : Type := Shp × Nat × Sto
def us (sh : Shp) (n : Nat) (kd : Nat × Nat) : Shp := fun a => if a = n then kd else sh a
def zc (σ : Sto) (n : Nat) : Sto := (fun a => if a = n then fun _ => 0 else σ.1 a, fun a => if a = n then fun _ => 0 else σ.2.1 a, fun a => if a = n then fun _ => none else σ.2.2 a)
/-- a new cell -/
def mkc (z : CSt) (kd : Nat × Nat) : CSt := (us z.1 z.2.1 kd, z.2.1 + 1, zc z.2.2 z.2.1)
theorem wl_push {G : Gv} {sh : Shp} {n : Nat} {σ : Sto} {kd : Nat × Nat} : wl G (us sh n kd) (n + 1) (zc σ n) = wl G sh n σ ++ [(G.2.2.1.1 + n, cer G kd (fun _ => 0) (fun _ => 0) (fun _ => none))] := by
  rw [wl, List.range_succ, List.map_append, wl]
  congr 1
  · refine List.map_congr_left (fun a ha => ?_)
    have hne : a ≠ n := Nat.ne_of_lt (List.mem_range.mp ha)
    simp [ce, us, zc, hne]
  · simp [ce, us, zc]
theorem Hd.push {G : Gv} {sh : Shp} {n : Nat} {σ : Sto} {kd : Nat × Nat} {H H1 : Heap} (h : Hd G sh (n, true) σ H) (ht : G.2.2.1.2 = 0) (z : H1.size = H.size + 1) (o : ∀ q, q < H.size → H1[q]? = H[q]?) (he : va_at G.1 vwCl (G.2.2.1.1 + n, cer G kd (fun _ => 0) (fun _ => 0) (fun _ => none)) H1) : Hd G (us sh n kd) (n + 1, true) (zc σ n) H1 := by
  have hz : H.size = G.2.2.1.1 + n := h.2.2.2.1 rfl
  refine ⟨?_, fun a ha => ?_, ?_, fun _ => ?_, Or.inl ht⟩
  · show va_P G.1 vwCl (wl G (us sh n kd) (n + 1) (zc σ n)) H1
    rw [wl_push]
    refine va_P.app (fun k q hq => (h.1 k q hq).kept (o q.1 ((h.1 k q hq).lt))) (fun k q hq => ?_)
    have hk : k < 1 := (List.getElem?_eq_some_iff.mp hq).1
    rw [show k = 0 by omega] at hq
    cases hq
    exact he
  · by_cases hn : a = n
    · subst hn; exact Nat.lt_succ_self _
    · have h1 : (sh a).1 ≠ 99 := by simpa [us, hn] using ha
      exact Nat.lt_succ_of_lt (h.2.1 a h1)
  · show G.2.2.1.1 + (n + 1) ≤ H1.size
    omega
  · show H1.size = G.2.2.1.1 + (n + 1)
    omega
def okTy : FieldType → Bool
  | .int => true
  | .boolean => true
  | .long => true
  | .object _ => true
  | .array _ => true
  | _ => false
theorem fv_def {b j : Nat} {ty : FieldType} (h : okTy ty = true) : fv b (fun _ => 0) (fun _ => 0) (fun _ => none) j ty = defaultValue ty := by
  cases ty <;> first | rfl | (cases h)
theorem ok_cls : ∀ ci, ci < 13 → ∀ j, j < NF ci → okTy (TY ci j) = true := by decide +kernel
section AWN
variable {p : Program} {l : Launch} {e : Env} {R : Room} {s : State} {m : MethodId} {args : Array Value} {below : List Frame} {meth : Method} {c : Code} {Q : State → Prop} {cells slots cells1 slots1 : Nat}
variable {G : Gv} {cc : ByteArray} {nL : Nat} {own : String} {pc : Nat} {lv : List (Option Value)} {st : List Value} {sh : Shp} {ν : Cnt} {σ : Sto} {z z1 : CSt}
theorem cn_new (h : Cx p s m args meth c G cc nL own) {C : String} {T : u_T} {N ci index : Nat} (hf : CF ci C T N) (hcl : Cond.classLink own index C ∈ WS) (hins : Cond.instantiable C N ∈ WS) (hini : Cond.initialized C ∈ WS) (d : decode cc pc = .ok (.new index, 3)) (ht : G.2.2.1.2 = 0) (he : mkc z (ci, 0) = z1) (hc1 : cells + 1 = cells1) (hs1 : slots + N = slots1) (hR : cells1 ≤ R.cells ∧ slots1 ≤ R.slots)
    (k : AW p l e R s m args below meth c Q cells1 slots1 G nL (pc + 3) lv (.ref z.2.1 :: st) z1.1 (z1.2.1, true) z1.2.2) : AW p l e R s m args below meth c Q cells slots G nL pc lv st z.1 (z.2.1, true) z.2.2 := by
  intro H locs ls hH hS hl
  subst he; subst hc1; subst hs1
  obtain ⟨hc, hN, hci, hin, hty, hnm⟩ := hf
  have hKn := h.k.1 ci _ hc
  have hz : H.size = G.2.2.1.1 + z.2.1 := hH.2.2.2.1 rfl
  refine W.newcK h.x h.b h.o (h.t _ hcl) (h.t _ hins) (h.t _ hini) rfl d hR.1 hR.2 hKn.2.1 hz fun H1 kC hkC e1 z1 o1 => ?_
  refine k H1 locs ls (hH.push ht (by omega) (fun q hq => o1 q (by omega)) ?_) ⟨Nat.le_trans hS.1 (by omega), fun x h1 h2 => (o1 x (by have := hS.1; omega)).trans (hS.2.1 x h1 h2), hS.2.2⟩ hl
  rw [cer_o hci]
  refine ⟨_, hc, (u_born (fun k => TY ci k) h.t hin hKn hkC e1 hty).to fun j hj => ?_⟩
  have hj' : j < NF ci := by rw [hN]; exact hj
  rw [vp_V, List.getD_eq_getElem?_getD, fl_at hj']
  exact (fv_def (j := j) (ok_cls ci hci j hj')).symm
theorem cn_newI (h : Cx p s m args meth c G cc nL own) {n : Int32} {N : Nat} (d : decode cc pc = .ok (.newarray .int, 2)) (ht : G.2.2.1.2 = 0) (hn : ¬ n < 0) (hN : n.toNatClampNeg = N) (hb : N ≤ 10000) (he : mkc z (20, N) = z1) (hc1 : cells + 1 = cells1) (hs1 : slots + N = slots1) (hR : cells1 ≤ R.cells ∧ slots1 ≤ R.slots)
    (k : AW p l e R s m args below meth c Q cells1 slots1 G nL (pc + 2) lv (.ref z.2.1 :: st) z1.1 (z1.2.1, true) z1.2.2) : AW p l e R s m args below meth c Q cells slots G nL pc lv (.int n :: st) z.1 (z.2.1, true) z.2.2 := by
  intro H locs ls hH hS hl
  subst he; subst hc1; subst hs1
  have hz : H.size = G.2.2.1.1 + z.2.1 := hH.2.2.2.1 rfl
  refine va_newaK (atype := .int) h.x h.b (h.t _ ac_int) rfl d rfl hn hN (by show N * 4 ≤ _; omega) hR.1 hR.2 hz fun H1 cA e1 z1 o1 hAr hNm => ?_
  have hcA : cA = G.2.1 0 := Option.some.inj (hNm.symm.trans (h.k.2 0 (G.2.1 0, .int) rfl).2)
  subst hcA
  refine k H1 locs ls (hH.push ht (by omega) (fun q hq => o1 q (by omega)) ?_) ⟨Nat.le_trans hS.1 (by omega), fun x h1 h2 => (o1 x (by have := hS.1; omega)).trans (hS.2.1 x h1 h2), hS.2.2⟩ hl
  rw [cer_i]
  exact e1
theorem cn_newJ (h : Cx p s m args meth c G cc nL own) {n : Int32} {N : Nat} (d : decode cc pc = .ok (.newarray .long, 2)) (ht : G.2.2.1.2 = 0) (hn : ¬ n < 0) (hN : n.toNatClampNeg = N) (hb : N ≤ 10000) (he : mkc z (21, N) = z1) (hc1 : cells + 1 = cells1) (hs1 : slots + N = slots1) (hR : cells1 ≤ R.cells ∧ slots1 ≤ R.slots)
    (k : AW p l e R s m args below meth c Q cells1 slots1 G nL (pc + 2) lv (.ref z.2.1 :: st) z1.1 (z1.2.1, true) z1.2.2) : AW p l e R s m args below meth c Q cells slots G nL pc lv (.int n :: st) z.1 (z.2.1, true) z.2.2 := by
  intro H locs ls hH hS hl
  subst he; subst hc1; subst hs1
  have hz : H.size = G.2.2.1.1 + z.2.1 := hH.2.2.2.1 rfl
  refine va_newaK (atype := .long) h.x h.b (h.t _ ac_long) rfl d rfl hn hN (by show N * 8 ≤ _; omega) hR.1 hR.2 hz fun H1 cA e1 z1 o1 hAr hNm => ?_
  have hcA : cA = G.2.1 1 := Option.some.inj (hNm.symm.trans (h.k.2 1 (G.2.1 1, .long) rfl).2)
  subst hcA
  refine k H1 locs ls (hH.push ht (by omega) (fun q hq => o1 q (by omega)) ?_) ⟨Nat.le_trans hS.1 (by omega), fun x h1 h2 => (o1 x (by have := hS.1; omega)).trans (hS.2.1 x h1 h2), hS.2.2⟩ hl
  rw [cer_j]
  exact e1
theorem cn_newZ (h : Cx p s m args meth c G cc nL own) {n : Int32} {N : Nat} (d : decode cc pc = .ok (.newarray .boolean, 2)) (ht : G.2.2.1.2 = 0) (hn : ¬ n < 0) (hN : n.toNatClampNeg = N) (hb : N ≤ 10000) (he : mkc z (22, N) = z1) (hc1 : cells + 1 = cells1) (hs1 : slots + N = slots1) (hR : cells1 ≤ R.cells ∧ slots1 ≤ R.slots)
    (k : AW p l e R s m args below meth c Q cells1 slots1 G nL (pc + 2) lv (.ref z.2.1 :: st) z1.1 (z1.2.1, true) z1.2.2) : AW p l e R s m args below meth c Q cells slots G nL pc lv (.int n :: st) z.1 (z.2.1, true) z.2.2 := by
  intro H locs ls hH hS hl
  subst he; subst hc1; subst hs1
  have hz : H.size = G.2.2.1.1 + z.2.1 := hH.2.2.2.1 rfl
  refine va_newaK (atype := .boolean) h.x h.b (h.t _ ac_boolean) rfl d rfl hn hN (by show N * 1 ≤ _; omega) hR.1 hR.2 hz fun H1 cA e1 z1 o1 hAr hNm => ?_
  have hcA : cA = G.2.1 2 := Option.some.inj (hNm.symm.trans (h.k.2 2 (G.2.1 2, .boolean) rfl).2)
  subst hcA
  refine k H1 locs ls (hH.push ht (by omega) (fun q hq => o1 q (by omega)) ?_) ⟨Nat.le_trans hS.1 (by omega), fun x h1 h2 => (o1 x (by have := hS.1; omega)).trans (hS.2.1 x h1 h2), hS.2.2⟩ hl
  rw [cer_z]
  exact e1
theorem cn_newM (h : Cx p s m args meth c G cc nL own) {n : Int32} {N index : Nat} (hcl : Cond.classLink own index "BasketCap$Image" ∈ WS) (d : decode cc pc = .ok (.anewarray index, 3)) (ht : G.2.2.1.2 = 0) (hn : ¬ n < 0) (hN : n.toNatClampNeg = N) (hb : N ≤ 10000) (he : mkc z (23, N) = z1) (hc1 : cells + 1 = cells1) (hs1 : slots + N = slots1) (hR : cells1 ≤ R.cells ∧ slots1 ≤ R.slots)
    (k : AW p l e R s m args below meth c Q cells1 slots1 G nL (pc + 3) lv (.ref z.2.1 :: st) z1.1 (z1.2.1, true) z1.2.2) : AW p l e R s m args below meth c Q cells slots G nL pc lv (.int n :: st) z.1 (z.2.1, true) z.2.2 := by
  intro H locs ls hH hS hl
  subst he; subst hc1; subst hs1; subst hN
  have hz : H.size = G.2.2.1.1 + z.2.1 := hH.2.2.2.1 rfl
  refine W.anew h.x h.b h.o (h.t _ hcl) (va_AO.use h.ex.2.2.2.2.1) rfl d rfl hn (by omega) hR.1 hR.2 fun cA kA comp f1 f2 f3 f4 => ?_
  have hRA := (h.k.2 3 (G.2.1 3, .object "BasketCap$Image") rfl).2
  obtain ⟨_, _, -, -, -, g4⟩ := hRA
  have hcA : cA = G.2.1 3 := Option.some.inj (f1.symm.trans g4)
  subst hcA
  rw [hz]
  refine k _ locs ls (hH.push ht (by rw [Array.size_push]) (fun q hq => by rw [Array.getElem?_push, if_neg (Nat.ne_of_lt hq)]) ?_) ⟨Nat.le_trans hS.1 (by rw [Array.size_push]; omega), fun x h1 h2 => (by rw [Array.getElem?_push, if_neg (Nat.ne_of_lt (Nat.lt_of_lt_of_le h1 hS.1))]; exact hS.2.1 x h1 h2), hS.2.2⟩ hl
  rw [cer_m]
  show (H.push _)[G.2.2.1.1 + z.2.1]? = some (vp_cell _ _)
  rw [← hz, Array.getElem?_push_size, vp_cell_q, ← arrV_new]
  rfl
theorem cn_newY (h : Cx p s m args meth c G cc nL own) {n : Int32} {N index : Nat} (hcl : Cond.classLink own index "BasketCap$Year" ∈ WS) (d : decode cc pc = .ok (.anewarray index, 3)) (ht : G.2.2.1.2 = 0) (hn : ¬ n < 0) (hN : n.toNatClampNeg = N) (hb : N ≤ 10000) (he : mkc z (24, N) = z1) (hc1 : cells + 1 = cells1) (hs1 : slots + N = slots1) (hR : cells1 ≤ R.cells ∧ slots1 ≤ R.slots)
    (k : AW p l e R s m args below meth c Q cells1 slots1 G nL (pc + 3) lv (.ref z.2.1 :: st) z1.1 (z1.2.1, true) z1.2.2) : AW p l e R s m args below meth c Q cells slots G nL pc lv (.int n :: st) z.1 (z.2.1, true) z.2.2 := by
  intro H locs ls hH hS hl
  subst he; subst hc1; subst hs1; subst hN
  have hz : H.size = G.2.2.1.1 + z.2.1 := hH.2.2.2.1 rfl
  refine W.anew h.x h.b h.o (h.t _ hcl) (va_AO.use h.ex.2.2.2.2.2.1) rfl d rfl hn (by omega) hR.1 hR.2 fun cA kA comp f1 f2 f3 f4 => ?_
  have hRA := (h.k.2 4 (G.2.1 4, .object "BasketCap$Year") rfl).2
  obtain ⟨_, _, -, -, -, g4⟩ := hRA
  have hcA : cA = G.2.1 4 := Option.some.inj (f1.symm.trans g4)
  subst hcA
  rw [hz]
  refine k _ locs ls (hH.push ht (by rw [Array.size_push]) (fun q hq => by rw [Array.getElem?_push, if_neg (Nat.ne_of_lt hq)]) ?_) ⟨Nat.le_trans hS.1 (by rw [Array.size_push]; omega), fun x h1 h2 => (by rw [Array.getElem?_push, if_neg (Nat.ne_of_lt (Nat.lt_of_lt_of_le h1 hS.1))]; exact hS.2.1 x h1 h2), hS.2.2⟩ hl
  rw [cer_y]
  show (H.push _)[G.2.2.1.1 + z.2.1]? = some (vp_cell _ _)
  rw [← hz, Array.getElem?_push_size, vp_cell_q, ← arrV_new]
  rfl
/-- a reference laid into an array of references; t0 the array's type in tyl -/
theorem cn_aast (h : Cx p s m args meth c G cc nL own) {a v n ci y w t0 : Nat} {C : String} {T : u_T} {N : Nat} {i : Int32} (d : decode cc pc = .ok (.aastore, 1)) (ha : z.1 a = (w, n)) (hw : w = 23 ∧ t0 = 3 ∨ w = 24 ∧ t0 = 4) (hT : (tyl G)[t0]? = some (G.2.1 t0, .object C)) (hf : vwCl[ci]? = some (C, T, N)) (hci : ci < 13) (hv : z.1 v = (ci, y)) (hi : ib i n) (he : (z.1, z.2.1, sr z.2.2 a (ix i) (some v)) = z1)
    (k : AW p l e R s m args below meth c Q cells slots G nL (pc + 1) lv st z1.1 (z1.2.1, true) z1.2.2) : AW p l e R s m args below meth c Q cells slots G nL pc lv (.ref v :: .int i :: .ref a :: st) z.1 (z.2.1, true) z.2.2 := by
  intro H locs ls hH hS hl
  subst he
  have hlt : ix i < n := ib_lt hi
  have h0 : ¬ i < 0 := fun q => hi (Or.inl q)
  have hlA : a < z.2.1 := hH.lt ha (by rcases hw with ⟨e, -⟩ | ⟨e, -⟩ <;> rw [e] <;> decide)
  have hlV : v < z.2.1 := hH.lt hv (by omega)
  have hcv : (wl G z.1 z.2.1 z.2.2)[v]? = some (G.2.2.1.1 + v, .inr (ci, fl G.2.2.1.1 (z.2.2.1 v) (z.2.2.2.1 v) (z.2.2.2.2 v) ci)) := by rw [wl_at hlV, ce_at hv, cer_o hci]
  have hce : ∀ σ : Sto, ce G z.1 σ a = .inl (G.2.1 t0, n, .inr (.inr (.inr (.inr (fun j => (σ.2.2 a j).map (fun x => G.2.2.1.1 + x)))))) := by
    intro σ
    rcases hw with ⟨e, e2⟩ | ⟨e, e2⟩
    · subst e; subst e2; rw [ce_at ha, cer_m]
    · subst e; subst e2; rw [ce_at ha, cer_y]
  have hca : (wl G z.1 z.2.1 z.2.2)[a]? = some (G.2.2.1.1 + a, .inl (G.2.1 t0, n, .inr (.inr (.inr (.inr (fun j => (z.2.2.2.2 a j).map (fun x => G.2.2.1.1 + x))))))) := by rw [wl_at hlA, hce]
  obtain ⟨r', hr', cellV, g1, g2, g3, -⟩ := hH.1 v _ hcv
  have hcls := (h.k.1 ci _ hf).2
  obtain ⟨kA, comp, k1, k2, k3, -⟩ := (h.k.2 t0 _ hT).2
  have hcomp : comp = G.1.1 ci := Option.some.inj (k3.symm.trans hcls.1)
  subst hcomp
  obtain ⟨kC, hkC, -⟩ := hcls.2
  refine W.aast h.x h.b (hH.1 a _ hca) (fun q h => by cases h) (fun h => by cases h) k1 k2 rfl hkC ⟨h0, by show _ < (arrV _ _ _).slots.size; rw [arrV_size]; exact hlt⟩ g1 (fun q h => by rw [g3] at h; cases h) (by rw [g2]; exact hkC) (by rw [g2]; exact va_assign hcls) rfl rfl d fun H1 e z1 oq => ?_
  refine k H1 _ ls (hH.upd hlA ?_ (fun b hb => ce_eq rfl rfl (u2_off hb)) z1 oq) (hS.put z1 oq (hH.A hlA)) hl
  rw [hce]
  show H1[G.2.2.1.1 + a]? = some (vp_cell _ _)
  rw [e]
  rw [vp_cell_q, vp_cell_q, arrV_store]
  congr 2
  funext q
  by_cases hq : q = ix i
  · subst hq
    simp [updV, sr, u2, va_rf]
  · simp [updV, sr, u2, hq]
theorem cn_obj (h : Cx p s m args meth c G cc nL own) {a index : Nat} (hl : Cond.methodLink own index objectInit ∈ WS) (d : decode cc pc = .ok (.invokespecial index, 3)) (hR : 1 ≤ R.frames ∧ 40 ≤ R.locals) (hst : (st.map fun v => v.category).sum ≤ 8) (k : AW p l e R s m args below meth c Q cells slots G nL (pc + 3) lv st sh ν σ) : AW p l e R s m args below meth c Q cells slots G nL pc lv (.ref a :: st) sh ν σ :=
  fun H locs ls hH hS hl' => W.objInit h.x h.b h.o (h.t _ hl) (h.t _ oi_1) (h.t _ oi_2) rfl (hl'.1.trans h.ml.symm) rfl d hR.1 (by show 2 * 0 + _ + 12 ≤ _; rw [cat_sum]; omega) (k H locs ls hH hS hl')
theorem cn_putr (h : Cx p s m args meth c G cc nL own) {C : String} {T : u_T} {N ci index a x : Nat} (k : Nat) (hf : CF ci C T N) (hk : k < N) (hl : Cond.fieldLink own index (T k).1 (T k).2.1 (T k).2.2.1 ∈ WS) (hfin : (T k).2.2.2 = false ∨ ((T k).2.2.2 = true ∧ meth.name = "<init>" ∧ (T k).1 = own)) (hty : (∃ n, TY ci k = .object n) ∨ ∃ t, TY ci k = .array t) (d : decode cc pc = .ok (.putfield index, 3)) (ha : (z.1 a).1 = ci) (he : (z.1, z.2.1, sr z.2.2 a k (some x)) = z1) (kk : AW p l e R s m args below meth c Q cells slots G nL (pc + 3) lv st z1.1 (z1.2.1, true) z1.2.2) : AW p l e R s m args below meth c Q cells slots G nL pc lv (.ref x :: .ref a :: st) z.1 (z.2.1, true) z.2.2 := by
  subst he
  exact hg_putr h k hf hk hl hfin hty d (show z.1 a = (ci, (z.1 a).2) from Prod.ext ha rfl) kk
theorem cn_puti (h : Cx p s m args meth c G cc nL own) {C : String} {T : u_T} {N ci index a : Nat} {x : Int32} (k : Nat) (hf : CF ci C T N) (hk : k < N) (hl : Cond.fieldLink own index (T k).1 (T k).2.1 (T k).2.2.1 ∈ WS) (hfin : (T k).2.2.2 = false) (hty : TY ci k = .int) (d : decode cc pc = .ok (.putfield index, 3)) (ha : (z.1 a).1 = ci) (he : (z.1, z.2.1, si z.2.2 a k x) = z1) (kk : AW p l e R s m args below meth c Q cells slots G nL (pc + 3) lv st z1.1 (z1.2.1, true) z1.2.2) : AW p l e R s m args below meth c Q cells slots G nL pc lv (.int x :: .ref a :: st) z.1 (z.2.1, true) z.2.2 := by
  subst he
  exact hg_puti h k hf hk hl hfin hty d (show z.1 a = (ci, (z.1 a).2) from Prod.ext ha rfl) kk
theorem cn_getr (h : Cx p s m args meth c G cc nL own) {C : String} {T : u_T} {N ci index a x : Nat} (k : Nat) (hf : CF ci C T N) (hk : k < N) (hl : Cond.fieldLink own index (T k).1 (T k).2.1 (T k).2.2.1 ∈ WS) (hty : (∃ n, TY ci k = .object n) ∨ ∃ t, TY ci k = .array t) (d : decode cc pc = .ok (.getfield index, 3)) (ha : (z.1 a).1 = ci) (hv : z.2.2.2.2 a k = some x) (kk : AW p l e R s m args below meth c Q cells slots G nL (pc + 3) lv (.ref x :: st) z.1 (z.2.1, true) z.2.2) : AW p l e R s m args below meth c Q cells slots G nL pc lv (.ref a :: st) z.1 (z.2.1, true) z.2.2 :=
  hg_get h k hf hk hl (v := .ref x) (fv_ref hty hv) d (show z.1 a = (ci, (z.1 a).2) from Prod.ext ha rfl) kk
/-- a constructor called: of a nest mate's private one, and of one that all may call -/
theorem cn_callN (h : Cx p s m args meth c G cc nL own) {y : MethodName} {bytes : ByteArray} {maxL fr n index a mc ms : Nat} {host : String} {vs stk : List Value} (hM : ConG l y bytes maxL none fr mc ms G z.1 (z.2.1, true) (.ref a :: vs) z.2.2 none z1.1 (z1.2.1, true) z1.2.2) (hi : MI y bytes maxL none n) (hi2 : Cond.instanceMethod y ∈ WS) (hy : y.name = "<init>") (hl : (own, index, y, host) ∈ nestL) (d : decode cc pc = .ok (.invokespecial index, 3)) (hn : vs.length = n) (hR : fr + 1 ≤ R.frames ∧ 8 + (maxL + 11) + 64 * fr ≤ R.locals) (hst : (st.map fun v => v.category).sum ≤ 8) (hc1 : cells + mc = cells1) (hs1 : slots + ms = slots1) (hc : cells1 ≤ R.cells ∧ slots1 ≤ R.slots) (hs : stk = vs.reverse ++ .ref a :: st)
    (k : AW p l e R s m args below meth c Q cells1 slots1 G nL (pc + 3) lv st z1.1 (z1.2.1, true) z1.2.2) : AW p l e R s m args below meth c Q cells slots G nL pc lv stk z.1 (z.2.1, true) z.2.2 := by
  intro H locs ls hH hS hl'
  subst hs; subst hc1; subst hs1
  obtain ⟨i1, i2, i3, i4⟩ := id hi
  refine call_k (r := none) (a := (Value.ref (G.2.2.1.1 + a) :: vs.map (cv G)).toArray) (rest := st.map (cv G)) (va_runIN (host := host) (b := G.2.2.1.1 + a) (As := vs.map (cv G)) (rest := st.map (cv G)) (n := n) (g := F0 m pc ls ((vs.reverse ++ Value.ref a :: st).map (cv G))) (bytes := bytes) (maxL := maxL) ⟨h.x, h.b, h.ml, h.o, h.t⟩ hM ⟨va_cnB n h.t hi.good rfl rfl rfl (h.ex.2.2.2.1 _ hl) (h.t _ i1) i3 hR, hy, h.t _ hi2⟩ ⟨Con_blind, fun U hU hW => ⟨rfl, h.on hS hU hW, by rw [hU]; exact hH⟩⟩ rfl (by rw [List.length_map]; exact hn) hl'.1 ?_ ?_ d hc) hS hl' ?_ k
  · simp [List.map_append, List.map_reverse, cv]
  · show 2 * 0 + _ ≤ 8
    rw [cat_sum]
    omega
  · rfl
theorem cn_callI (h : Cx p s m args meth c G cc nL own) {y : MethodName} {bytes : ByteArray} {maxL fr n index a mc ms : Nat} {vs stk : List Value} (hM : ConG l y bytes maxL none fr mc ms G z.1 (z.2.1, true) (.ref a :: vs) z.2.2 none z1.1 (z1.2.1, true) z1.2.2) (hi : MI y bytes maxL none n) (hi2 : Cond.instanceMethod y ∈ WS) (hy : y.name = "<init>") (hl : Cond.methodLink own index y ∈ WS) (d : decode cc pc = .ok (.invokespecial index, 3)) (hn : vs.length = n) (hR : fr + 1 ≤ R.frames ∧ 8 + (maxL + 11) + 64 * fr ≤ R.locals) (hst : (st.map fun v => v.category).sum ≤ 8) (hc1 : cells + mc = cells1) (hs1 : slots + ms = slots1) (hc : cells1 ≤ R.cells ∧ slots1 ≤ R.slots) (hs : stk = vs.reverse ++ .ref a :: st)
    (k : AW p l e R s m args below meth c Q cells1 slots1 G nL (pc + 3) lv st z1.1 (z1.2.1, true) z1.2.2) : AW p l e R s m args below meth c Q cells slots G nL pc lv stk z.1 (z.2.1, true) z.2.2 := by
  intro H locs ls hH hS hl'
  subst hs; subst hc1; subst hs1
  obtain ⟨i1, i2, i3, i4⟩ := id hi
  refine call_k (r := none) (a := (Value.ref (G.2.2.1.1 + a) :: vs.map (cv G)).toArray) (rest := st.map (cv G)) (va_runI (b := G.2.2.1.1 + a) (As := vs.map (cv G)) (rest := st.map (cv G)) (n := n) (g := F0 m pc ls ((vs.reverse ++ Value.ref a :: st).map (cv G))) (bytes := bytes) (maxL := maxL) ⟨h.x, h.b, h.ml, h.o, h.t⟩ hM ⟨callB_of n h.t hi.good rfl rfl rfl (h.t _ i1) (h.t _ hl) i3 hR, hy, h.t _ hi2⟩ ⟨Con_blind, fun U hU hW => ⟨rfl, h.on hS hU hW, by rw [hU]; exact hH⟩⟩ rfl (by rw [List.length_map]; exact hn) hl'.1 ?_ ?_ d hc) hS hl' ?_ k
  · simp [List.map_append, List.map_reverse, cv]
  · show 2 * 0 + _ ≤ 8
    rw [cat_sum]
    omega
  · rfl
end AWN

def K_X6_init (z0 : CSt) (a0 : Nat) : Option CSt := some z0
set_option maxRecDepth 100000 in
set_option maxHeartbeats 4000000 in
theorem w_X6_init {l : Launch} {G : Gv} (ht : G.2.2.1.2 = 0) {z0 z : CSt} {a0 : Nat} (hF : K_X6_init z0 a0 = some z) : ConG l yX6_init cX6_init 1 none 1 0 0 G z0.1 (z0.2.1, true) [.ref a0] z0.2.2 none z.1 (z.2.1, true) z.2.2 := by
  rw [K_X6_init] at hF
  refine Con_enter (own := RX6) 0 (lv := [some (.ref a0)]) mi_X6_init.2.2.2 rfl (Nat.le_of_ble_eq_true rfl) rfl (fun h hr hin => ?_)
  refine st_aload_0 h dX6_init_0 ?_
  refine cn_obj h ml_X6_3 dX6_init_1 ⟨Nat.le_of_ble_eq_true rfl, Nat.le_of_ble_eq_true rfl⟩ (Nat.le_of_ble_eq_true rfl) ?_
  cases hF
  exact st_vret h hr dX6_init_4
def K_X10_init (z0 : CSt) (a0 : Nat) : Option CSt := (sw (mkc z0 (20, 4)) fun z1 => if (z1.1 a0).1 = 10 then ((sw (z1.1, z1.2.1, sr z1.2.2 a0 2 (some z0.2.1)) fun z2 => (sw (mkc z2 (20, 4)) fun z3 => if (z3.1 a0).1 = 10 then ((sw (z3.1, z3.2.1, sr z3.2.2 a0 3 (some z2.2.1)) fun z4 => (sw (mkc z4 (20, 4)) fun z5 => if (z5.1 a0).1 = 10 then ((sw (z5.1, z5.2.1, sr z5.2.2 a0 4 (some z4.2.1)) fun z6 => (sw (mkc z6 (20, 4)) fun z7 => if (z7.1 a0).1 = 10 then ((sw (z7.1, z7.2.1, sr z7.2.2 a0 5 (some z6.2.1)) fun z8 => some z8)) else none))) else none))) else none))) else none)
set_option maxRecDepth 100000 in
set_option maxHeartbeats 4000000 in
theorem w_X10_init {l : Launch} {G : Gv} (ht : G.2.2.1.2 = 0) {z0 z : CSt} {a0 : Nat} (hF : K_X10_init z0 a0 = some z) : ConG l yX10_init cX10_init 1 none 1 4 16 G z0.1 (z0.2.1, true) [.ref a0] z0.2.2 none z.1 (z.2.1, true) z.2.2 := by
  rw [K_X10_init] at hF
  refine Con_enter (own := RX10) 0 (lv := [some (.ref a0)]) mi_X10_init.2.2.2 rfl (Nat.le_of_ble_eq_true rfl) rfl (fun h hr hin => ?_)
  refine st_aload_0 h dX10_init_0 ?_
  refine cn_obj h ml_X10_3 dX10_init_1 ⟨Nat.le_of_ble_eq_true rfl, Nat.le_of_ble_eq_true rfl⟩ (Nat.le_of_ble_eq_true rfl) ?_
  refine st_aload_0 h dX10_init_4 ?_
  refine st_ic_4 h dX10_init_5 ?_
  obtain ⟨z1, hz1, hF⟩ := swI hF
  refine cn_newI (cells1 := 1) (slots1 := 4) h dX10_init_6 ht (by decide) (by decide) (by decide) hz1 rfl rfl ⟨Nat.le_of_ble_eq_true rfl, Nat.le_of_ble_eq_true rfl⟩ ?_
  obtain ⟨g1, hF⟩ := gI hF
  obtain ⟨z2, hz2, hF⟩ := swI hF
  refine cn_putr h 2 cf_X10 (by decide) fl_X10_9 (Or.inr ⟨rfl, hin, rfl⟩) (Or.inr ⟨_, rfl⟩) dX10_init_8 g1 hz2 ?_
  refine st_aload_0 h dX10_init_11 ?_
  refine st_ic_4 h dX10_init_12 ?_
  obtain ⟨z3, hz3, hF⟩ := swI hF
  refine cn_newI (cells1 := 2) (slots1 := 8) h dX10_init_13 ht (by decide) (by decide) (by decide) hz3 rfl rfl ⟨Nat.le_of_ble_eq_true rfl, Nat.le_of_ble_eq_true rfl⟩ ?_
  obtain ⟨g2, hF⟩ := gI hF
  obtain ⟨z4, hz4, hF⟩ := swI hF
  refine cn_putr h 3 cf_X10 (by decide) fl_X10_15 (Or.inr ⟨rfl, hin, rfl⟩) (Or.inr ⟨_, rfl⟩) dX10_init_15 g2 hz4 ?_
  refine st_aload_0 h dX10_init_18 ?_
  refine st_ic_4 h dX10_init_19 ?_
  obtain ⟨z5, hz5, hF⟩ := swI hF
  refine cn_newI (cells1 := 3) (slots1 := 12) h dX10_init_20 ht (by decide) (by decide) (by decide) hz5 rfl rfl ⟨Nat.le_of_ble_eq_true rfl, Nat.le_of_ble_eq_true rfl⟩ ?_
  obtain ⟨g3, hF⟩ := gI hF
  obtain ⟨z6, hz6, hF⟩ := swI hF
  refine cn_putr h 4 cf_X10 (by decide) fl_X10_18 (Or.inr ⟨rfl, hin, rfl⟩) (Or.inr ⟨_, rfl⟩) dX10_init_22 g3 hz6 ?_
  refine st_aload_0 h dX10_init_25 ?_
  refine st_ic_4 h dX10_init_26 ?_
  obtain ⟨z7, hz7, hF⟩ := swI hF
  refine cn_newI (cells1 := 4) (slots1 := 16) h dX10_init_27 ht (by decide) (by decide) (by decide) hz7 rfl rfl ⟨Nat.le_of_ble_eq_true rfl, Nat.le_of_ble_eq_true rfl⟩ ?_
  obtain ⟨g4, hF⟩ := gI hF
  obtain ⟨z8, hz8, hF⟩ := swI hF
  refine cn_putr h 5 cf_X10 (by decide) fl_X10_21 (Or.inr ⟨rfl, hin, rfl⟩) (Or.inr ⟨_, rfl⟩) dX10_init_29 g4 hz8 ?_
  cases hF
  exact st_vret h hr dX10_init_32
def K_X0_init (z0 : CSt) (a0 : Nat) : Option CSt := (sw (mkc z0 (20, 396)) fun z1 => if (z1.1 a0).1 = 0 then ((sw (z1.1, z1.2.1, sr z1.2.2 a0 0 (some z0.2.1)) fun z2 => some z2)) else none)
set_option maxRecDepth 100000 in
set_option maxHeartbeats 4000000 in
theorem w_X0_init {l : Launch} {G : Gv} (ht : G.2.2.1.2 = 0) {z0 z : CSt} {a0 : Nat} (hF : K_X0_init z0 a0 = some z) : ConG l yX0_init cX0_init 1 none 1 1 396 G z0.1 (z0.2.1, true) [.ref a0] z0.2.2 none z.1 (z.2.1, true) z.2.2 := by
  rw [K_X0_init] at hF
  refine Con_enter (own := RX0) 0 (lv := [some (.ref a0)]) mi_X0_init.2.2.2 rfl (Nat.le_of_ble_eq_true rfl) rfl (fun h hr hin => ?_)
  refine st_aload_0 h dX0_init_0 ?_
  refine cn_obj h ml_X0_3 dX0_init_1 ⟨Nat.le_of_ble_eq_true rfl, Nat.le_of_ble_eq_true rfl⟩ (Nat.le_of_ble_eq_true rfl) ?_
  refine st_aload_0 h dX0_init_4 ?_
  refine st_sipush (v := 396) h dX0_init_5 (by decide) ?_
  obtain ⟨z1, hz1, hF⟩ := swI hF
  refine cn_newI (cells1 := 1) (slots1 := 396) h dX0_init_8 ht (by decide) (by decide) (by decide) hz1 rfl rfl ⟨Nat.le_of_ble_eq_true rfl, Nat.le_of_ble_eq_true rfl⟩ ?_
  obtain ⟨g1, hF⟩ := gI hF
  obtain ⟨z2, hz2, hF⟩ := swI hF
  refine cn_putr h 0 cf_X0 (by decide) fl_X0_11 (Or.inr ⟨rfl, hin, rfl⟩) (Or.inr ⟨_, rfl⟩) dX0_init_10 g1 hz2 ?_
  cases hF
  exact st_vret h hr dX0_init_13
def K_X5_init (z0 : CSt) (a0 : Nat) : Option CSt := (sw (mkc z0 (24, 10)) fun z1 => if (z1.1 a0).1 = 5 then ((sw (z1.1, z1.2.1, sr z1.2.2 a0 0 (some z0.2.1)) fun z2 => if (z2.1 a0).1 = 5 then (((z2.2.2.2.2 a0 0).bind fun x1 => (sw (mkc z2 (10, 0)) fun z3 => ((K_X10_init z3 z2.2.1).bind fun z4 => if z4.1 x1 = (24, 10) then (if z4.1 z2.2.1 = (10, 0) then ((sw (z4.1, z4.2.1, sr z4.2.2 x1 (ix 0) (some z2.2.1)) fun z5 => if (z5.1 a0).1 = 5 then (((z5.2.2.2.2 a0 0).bind fun x2 => (sw (mkc z5 (10, 0)) fun z6 => ((K_X10_init z6 z5.2.1).bind fun z7 => if z7.1 x2 = (24, 10) then (if z7.1 z5.2.1 = (10, 0) then ((sw (z7.1, z7.2.1, sr z7.2.2 x2 (ix 1) (some z5.2.1)) fun z8 => if (z8.1 a0).1 = 5 then (((z8.2.2.2.2 a0 0).bind fun x3 => (sw (mkc z8 (10, 0)) fun z9 => ((K_X10_init z9 z8.2.1).bind fun z10 => if z10.1 x3 = (24, 10) then (if z10.1 z8.2.1 = (10, 0) then ((sw (z10.1, z10.2.1, sr z10.2.2 x3 (ix 2) (some z8.2.1)) fun z11 => if (z11.1 a0).1 = 5 then (((z11.2.2.2.2 a0 0).bind fun x4 => (sw (mkc z11 (10, 0)) fun z12 => ((K_X10_init z12 z11.2.1).bind fun z13 => if z13.1 x4 = (24, 10) then (if z13.1 z11.2.1 = (10, 0) then ((sw (z13.1, z13.2.1, sr z13.2.2 x4 (ix 3) (some z11.2.1)) fun z14 => if (z14.1 a0).1 = 5 then (((z14.2.2.2.2 a0 0).bind fun x5 => (sw (mkc z14 (10, 0)) fun z15 => ((K_X10_init z15 z14.2.1).bind fun z16 => if z16.1 x5 = (24, 10) then (if z16.1 z14.2.1 = (10, 0) then ((sw (z16.1, z16.2.1, sr z16.2.2 x5 (ix 4) (some z14.2.1)) fun z17 => if (z17.1 a0).1 = 5 then (((z17.2.2.2.2 a0 0).bind fun x6 => (sw (mkc z17 (10, 0)) fun z18 => ((K_X10_init z18 z17.2.1).bind fun z19 => if z19.1 x6 = (24, 10) then (if z19.1 z17.2.1 = (10, 0) then ((sw (z19.1, z19.2.1, sr z19.2.2 x6 (ix 5) (some z17.2.1)) fun z20 => if (z20.1 a0).1 = 5 then (((z20.2.2.2.2 a0 0).bind fun x7 => (sw (mkc z20 (10, 0)) fun z21 => ((K_X10_init z21 z20.2.1).bind fun z22 => if z22.1 x7 = (24, 10) then (if z22.1 z20.2.1 = (10, 0) then ((sw (z22.1, z22.2.1, sr z22.2.2 x7 (ix 6) (some z20.2.1)) fun z23 => if (z23.1 a0).1 = 5 then (((z23.2.2.2.2 a0 0).bind fun x8 => (sw (mkc z23 (10, 0)) fun z24 => ((K_X10_init z24 z23.2.1).bind fun z25 => if z25.1 x8 = (24, 10) then (if z25.1 z23.2.1 = (10, 0) then ((sw (z25.1, z25.2.1, sr z25.2.2 x8 (ix 7) (some z23.2.1)) fun z26 => if (z26.1 a0).1 = 5 then (((z26.2.2.2.2 a0 0).bind fun x9 => (sw (mkc z26 (10, 0)) fun z27 => ((K_X10_init z27 z26.2.1).bind fun z28 => if z28.1 x9 = (24, 10) then (if z28.1 z26.2.1 = (10, 0) then ((sw (z28.1, z28.2.1, sr z28.2.2 x9 (ix 8) (some z26.2.1)) fun z29 => if (z29.1 a0).1 = 5 then (((z29.2.2.2.2 a0 0).bind fun x10 => (sw (mkc z29 (10, 0)) fun z30 => ((K_X10_init z30 z29.2.1).bind fun z31 => if z31.1 x10 = (24, 10) then (if z31.1 z29.2.1 = (10, 0) then ((sw (z31.1, z31.2.1, sr z31.2.2 x10 (ix 9) (some z29.2.1)) fun z32 => some z32)) else none) else none)))) else none)) else none) else none)))) else none)) else none) else none)))) else none)) else none) else none)))) else none)) else none) else none)))) else none)) else none) else none)))) else none)) else none) else none)))) else none)) else none) else none)))) else none)) else none) else none)))) else none)) else none) else none)))) else none)) else none)
set_option maxRecDepth 100000 in
set_option maxHeartbeats 4000000 in
theorem w_X5_init {l : Launch} {G : Gv} (ht : G.2.2.1.2 = 0) {z0 z : CSt} {a0 : Nat} (hF : K_X5_init z0 a0 = some z) : ConG l yX5_init cX5_init 2 none 2 51 230 G z0.1 (z0.2.1, true) [.ref a0] z0.2.2 none z.1 (z.2.1, true) z.2.2 := by
  rw [K_X5_init] at hF
  refine Con_enter (own := RX5) 1 (lv := [some (.ref a0), none]) mi_X5_init.2.2.2 rfl (Nat.le_of_ble_eq_true rfl) rfl (fun h hr hin => ?_)
  refine st_aload_0 h dX5_init_0 ?_
  refine cn_obj h ml_X5_1 dX5_init_1 ⟨Nat.le_of_ble_eq_true rfl, Nat.le_of_ble_eq_true rfl⟩ (Nat.le_of_ble_eq_true rfl) ?_
  refine st_aload_0 h dX5_init_4 ?_
  refine st_bipush (v := 10) h dX5_init_5 (by decide) ?_
  obtain ⟨z1, hz1, hF⟩ := swI hF
  refine cn_newY (cells1 := 1) (slots1 := 10) h kl_X5_9 dX5_init_7 ht (by decide) (by decide) (by decide) hz1 rfl rfl ⟨Nat.le_of_ble_eq_true rfl, Nat.le_of_ble_eq_true rfl⟩ ?_
  obtain ⟨g1, hF⟩ := gI hF
  obtain ⟨z2, hz2, hF⟩ := swI hF
  refine cn_putr h 0 cf_X5 (by decide) fl_X5_11 (Or.inr ⟨rfl, hin, rfl⟩) (Or.inr ⟨_, rfl⟩) dX5_init_10 g1 hz2 ?_
  refine st_ic_0 h dX5_init_13 ?_
  refine st_istore_1 h dX5_init_14 ?_
  refine st_iload_1 h dX5_init_15 ?_
  refine st_bipush (v := 10) h dX5_init_16 (by decide) ?_
  refine st_icmp_ge (t := 40) h dX5_init_18 (by decide) (fun q => absurd q (by decide)) (fun _ => ?_)
  refine st_aload_0 h dX5_init_21 ?_
  obtain ⟨g2, hF⟩ := gI hF
  obtain ⟨x1, hx1, hF⟩ := bI hF
  refine cn_getr h 0 cf_X5 (by decide) fl_X5_11 (Or.inr ⟨_, rfl⟩) dX5_init_22 g2 hx1 ?_
  refine st_iload_1 h dX5_init_25 ?_
  obtain ⟨z3, hz3, hF⟩ := swI hF
  refine cn_new (cells1 := 2) (slots1 := 16) h cf_X10 kl_X5_9 ins_X10 ini_X10 dX5_init_26 ht hz3 rfl rfl ⟨Nat.le_of_ble_eq_true rfl, Nat.le_of_ble_eq_true rfl⟩ ?_
  refine st_dup h rfl dX5_init_29 ?_
  obtain ⟨z4, hz4, hF⟩ := bI hF
  refine cn_callN (vs := []) (st := [.ref z2.2.1, .int 0, .ref x1]) (host := "BasketCap") (cells1 := 6) (slots1 := 32) h (w_X10_init ht hz4) mi_X10_init mn_X10_init rfl (by decide +kernel) dX5_init_30 rfl ⟨Nat.le_of_ble_eq_true rfl, Nat.le_of_ble_eq_true rfl⟩ (Nat.le_of_ble_eq_true rfl) rfl rfl ⟨Nat.le_of_ble_eq_true rfl, Nat.le_of_ble_eq_true rfl⟩ rfl ?_
  obtain ⟨g3, hF⟩ := gI hF
  obtain ⟨g4, hF⟩ := gI hF
  obtain ⟨z5, hz5, hF⟩ := swI hF
  refine cn_aast (i := 0) (ci := 10) (t0 := 4) h dX5_init_33 g3 (Or.inr ⟨rfl, rfl⟩) rfl rfl (by decide) g4 (by decide) hz5 ?_
  refine st_iinc_1 (y := 1) h dX5_init_34 (by decide) ?_
  refine st_goto (t := 15) h dX5_init_37 (by decide) ?_
  refine st_iload_1 h dX5_init_15 ?_
  refine st_bipush (v := 10) h dX5_init_16 (by decide) ?_
  refine st_icmp_ge (t := 40) h dX5_init_18 (by decide) (fun q => absurd q (by decide)) (fun _ => ?_)
  refine st_aload_0 h dX5_init_21 ?_
  obtain ⟨g5, hF⟩ := gI hF
  obtain ⟨x2, hx2, hF⟩ := bI hF
  refine cn_getr h 0 cf_X5 (by decide) fl_X5_11 (Or.inr ⟨_, rfl⟩) dX5_init_22 g5 hx2 ?_
  refine st_iload_1 h dX5_init_25 ?_
  obtain ⟨z6, hz6, hF⟩ := swI hF
  refine cn_new (cells1 := 7) (slots1 := 38) h cf_X10 kl_X5_9 ins_X10 ini_X10 dX5_init_26 ht hz6 rfl rfl ⟨Nat.le_of_ble_eq_true rfl, Nat.le_of_ble_eq_true rfl⟩ ?_
  refine st_dup h rfl dX5_init_29 ?_
  obtain ⟨z7, hz7, hF⟩ := bI hF
  refine cn_callN (vs := []) (st := [.ref z5.2.1, .int 1, .ref x2]) (host := "BasketCap") (cells1 := 11) (slots1 := 54) h (w_X10_init ht hz7) mi_X10_init mn_X10_init rfl (by decide +kernel) dX5_init_30 rfl ⟨Nat.le_of_ble_eq_true rfl, Nat.le_of_ble_eq_true rfl⟩ (Nat.le_of_ble_eq_true rfl) rfl rfl ⟨Nat.le_of_ble_eq_true rfl, Nat.le_of_ble_eq_true rfl⟩ rfl ?_
  obtain ⟨g6, hF⟩ := gI hF
  obtain ⟨g7, hF⟩ := gI hF
  obtain ⟨z8, hz8, hF⟩ := swI hF
  refine cn_aast (i := 1) (ci := 10) (t0 := 4) h dX5_init_33 g6 (Or.inr ⟨rfl, rfl⟩) rfl rfl (by decide) g7 (by decide) hz8 ?_
  refine st_iinc_1 (y := 2) h dX5_init_34 (by decide) ?_
  refine st_goto (t := 15) h dX5_init_37 (by decide) ?_
  refine st_iload_1 h dX5_init_15 ?_
  refine st_bipush (v := 10) h dX5_init_16 (by decide) ?_
  refine st_icmp_ge (t := 40) h dX5_init_18 (by decide) (fun q => absurd q (by decide)) (fun _ => ?_)
  refine st_aload_0 h dX5_init_21 ?_
  obtain ⟨g8, hF⟩ := gI hF
  obtain ⟨x3, hx3, hF⟩ := bI hF
  refine cn_getr h 0 cf_X5 (by decide) fl_X5_11 (Or.inr ⟨_, rfl⟩) dX5_init_22 g8 hx3 ?_
  refine st_iload_1 h dX5_init_25 ?_
  obtain ⟨z9, hz9, hF⟩ := swI hF
  refine cn_new (cells1 := 12) (slots1 := 60) h cf_X10 kl_X5_9 ins_X10 ini_X10 dX5_init_26 ht hz9 rfl rfl ⟨Nat.le_of_ble_eq_true rfl, Nat.le_of_ble_eq_true rfl⟩ ?_
  refine st_dup h rfl dX5_init_29 ?_
  obtain ⟨z10, hz10, hF⟩ := bI hF
  refine cn_callN (vs := []) (st := [.ref z8.2.1, .int 2, .ref x3]) (host := "BasketCap") (cells1 := 16) (slots1 := 76) h (w_X10_init ht hz10) mi_X10_init mn_X10_init rfl (by decide +kernel) dX5_init_30 rfl ⟨Nat.le_of_ble_eq_true rfl, Nat.le_of_ble_eq_true rfl⟩ (Nat.le_of_ble_eq_true rfl) rfl rfl ⟨Nat.le_of_ble_eq_true rfl, Nat.le_of_ble_eq_true rfl⟩ rfl ?_
  obtain ⟨g9, hF⟩ := gI hF
  obtain ⟨g10, hF⟩ := gI hF
  obtain ⟨z11, hz11, hF⟩ := swI hF
  refine cn_aast (i := 2) (ci := 10) (t0 := 4) h dX5_init_33 g9 (Or.inr ⟨rfl, rfl⟩) rfl rfl (by decide) g10 (by decide) hz11 ?_
  refine st_iinc_1 (y := 3) h dX5_init_34 (by decide) ?_
  refine st_goto (t := 15) h dX5_init_37 (by decide) ?_
  refine st_iload_1 h dX5_init_15 ?_
  refine st_bipush (v := 10) h dX5_init_16 (by decide) ?_
  refine st_icmp_ge (t := 40) h dX5_init_18 (by decide) (fun q => absurd q (by decide)) (fun _ => ?_)
  refine st_aload_0 h dX5_init_21 ?_
  obtain ⟨g11, hF⟩ := gI hF
  obtain ⟨x4, hx4, hF⟩ := bI hF
  refine cn_getr h 0 cf_X5 (by decide) fl_X5_11 (Or.inr ⟨_, rfl⟩) dX5_init_22 g11 hx4 ?_
  refine st_iload_1 h dX5_init_25 ?_
  obtain ⟨z12, hz12, hF⟩ := swI hF
  refine cn_new (cells1 := 17) (slots1 := 82) h cf_X10 kl_X5_9 ins_X10 ini_X10 dX5_init_26 ht hz12 rfl rfl ⟨Nat.le_of_ble_eq_true rfl, Nat.le_of_ble_eq_true rfl⟩ ?_
  refine st_dup h rfl dX5_init_29 ?_
  obtain ⟨z13, hz13, hF⟩ := bI hF
  refine cn_callN (vs := []) (st := [.ref z11.2.1, .int 3, .ref x4]) (host := "BasketCap") (cells1 := 21) (slots1 := 98) h (w_X10_init ht hz13) mi_X10_init mn_X10_init rfl (by decide +kernel) dX5_init_30 rfl ⟨Nat.le_of_ble_eq_true rfl, Nat.le_of_ble_eq_true rfl⟩ (Nat.le_of_ble_eq_true rfl) rfl rfl ⟨Nat.le_of_ble_eq_true rfl, Nat.le_of_ble_eq_true rfl⟩ rfl ?_
  obtain ⟨g12, hF⟩ := gI hF
  obtain ⟨g13, hF⟩ := gI hF
  obtain ⟨z14, hz14, hF⟩ := swI hF
  refine cn_aast (i := 3) (ci := 10) (t0 := 4) h dX5_init_33 g12 (Or.inr ⟨rfl, rfl⟩) rfl rfl (by decide) g13 (by decide) hz14 ?_
  refine st_iinc_1 (y := 4) h dX5_init_34 (by decide) ?_
  refine st_goto (t := 15) h dX5_init_37 (by decide) ?_
  refine st_iload_1 h dX5_init_15 ?_
  refine st_bipush (v := 10) h dX5_init_16 (by decide) ?_
  refine st_icmp_ge (t := 40) h dX5_init_18 (by decide) (fun q => absurd q (by decide)) (fun _ => ?_)
  refine st_aload_0 h dX5_init_21 ?_
  obtain ⟨g14, hF⟩ := gI hF
  obtain ⟨x5, hx5, hF⟩ := bI hF
  refine cn_getr h 0 cf_X5 (by decide) fl_X5_11 (Or.inr ⟨_, rfl⟩) dX5_init_22 g14 hx5 ?_
  refine st_iload_1 h dX5_init_25 ?_
  obtain ⟨z15, hz15, hF⟩ := swI hF
  refine cn_new (cells1 := 22) (slots1 := 104) h cf_X10 kl_X5_9 ins_X10 ini_X10 dX5_init_26 ht hz15 rfl rfl ⟨Nat.le_of_ble_eq_true rfl, Nat.le_of_ble_eq_true rfl⟩ ?_
  refine st_dup h rfl dX5_init_29 ?_
  obtain ⟨z16, hz16, hF⟩ := bI hF
  refine cn_callN (vs := []) (st := [.ref z14.2.1, .int 4, .ref x5]) (host := "BasketCap") (cells1 := 26) (slots1 := 120) h (w_X10_init ht hz16) mi_X10_init mn_X10_init rfl (by decide +kernel) dX5_init_30 rfl ⟨Nat.le_of_ble_eq_true rfl, Nat.le_of_ble_eq_true rfl⟩ (Nat.le_of_ble_eq_true rfl) rfl rfl ⟨Nat.le_of_ble_eq_true rfl, Nat.le_of_ble_eq_true rfl⟩ rfl ?_
  obtain ⟨g15, hF⟩ := gI hF
  obtain ⟨g16, hF⟩ := gI hF
  obtain ⟨z17, hz17, hF⟩ := swI hF
  refine cn_aast (i := 4) (ci := 10) (t0 := 4) h dX5_init_33 g15 (Or.inr ⟨rfl, rfl⟩) rfl rfl (by decide) g16 (by decide) hz17 ?_
  refine st_iinc_1 (y := 5) h dX5_init_34 (by decide) ?_
  refine st_goto (t := 15) h dX5_init_37 (by decide) ?_
  refine st_iload_1 h dX5_init_15 ?_
  refine st_bipush (v := 10) h dX5_init_16 (by decide) ?_
  refine st_icmp_ge (t := 40) h dX5_init_18 (by decide) (fun q => absurd q (by decide)) (fun _ => ?_)
  refine st_aload_0 h dX5_init_21 ?_
  obtain ⟨g17, hF⟩ := gI hF
  obtain ⟨x6, hx6, hF⟩ := bI hF
  refine cn_getr h 0 cf_X5 (by decide) fl_X5_11 (Or.inr ⟨_, rfl⟩) dX5_init_22 g17 hx6 ?_
  refine st_iload_1 h dX5_init_25 ?_
  obtain ⟨z18, hz18, hF⟩ := swI hF
  refine cn_new (cells1 := 27) (slots1 := 126) h cf_X10 kl_X5_9 ins_X10 ini_X10 dX5_init_26 ht hz18 rfl rfl ⟨Nat.le_of_ble_eq_true rfl, Nat.le_of_ble_eq_true rfl⟩ ?_
  refine st_dup h rfl dX5_init_29 ?_
  obtain ⟨z19, hz19, hF⟩ := bI hF
  refine cn_callN (vs := []) (st := [.ref z17.2.1, .int 5, .ref x6]) (host := "BasketCap") (cells1 := 31) (slots1 := 142) h (w_X10_init ht hz19) mi_X10_init mn_X10_init rfl (by decide +kernel) dX5_init_30 rfl ⟨Nat.le_of_ble_eq_true rfl, Nat.le_of_ble_eq_true rfl⟩ (Nat.le_of_ble_eq_true rfl) rfl rfl ⟨Nat.le_of_ble_eq_true rfl, Nat.le_of_ble_eq_true rfl⟩ rfl ?_
  obtain ⟨g18, hF⟩ := gI hF
  obtain ⟨g19, hF⟩ := gI hF
  obtain ⟨z20, hz20, hF⟩ := swI hF
  refine cn_aast (i := 5) (ci := 10) (t0 := 4) h dX5_init_33 g18 (Or.inr ⟨rfl, rfl⟩) rfl rfl (by decide) g19 (by decide) hz20 ?_
  refine st_iinc_1 (y := 6) h dX5_init_34 (by decide) ?_
  refine st_goto (t := 15) h dX5_init_37 (by decide) ?_
  refine st_iload_1 h dX5_init_15 ?_
  refine st_bipush (v := 10) h dX5_init_16 (by decide) ?_
  refine st_icmp_ge (t := 40) h dX5_init_18 (by decide) (fun q => absurd q (by decide)) (fun _ => ?_)
  refine st_aload_0 h dX5_init_21 ?_
  obtain ⟨g20, hF⟩ := gI hF
  obtain ⟨x7, hx7, hF⟩ := bI hF
  refine cn_getr h 0 cf_X5 (by decide) fl_X5_11 (Or.inr ⟨_, rfl⟩) dX5_init_22 g20 hx7 ?_
  refine st_iload_1 h dX5_init_25 ?_
  obtain ⟨z21, hz21, hF⟩ := swI hF
  refine cn_new (cells1 := 32) (slots1 := 148) h cf_X10 kl_X5_9 ins_X10 ini_X10 dX5_init_26 ht hz21 rfl rfl ⟨Nat.le_of_ble_eq_true rfl, Nat.le_of_ble_eq_true rfl⟩ ?_
  refine st_dup h rfl dX5_init_29 ?_
  obtain ⟨z22, hz22, hF⟩ := bI hF
  refine cn_callN (vs := []) (st := [.ref z20.2.1, .int 6, .ref x7]) (host := "BasketCap") (cells1 := 36) (slots1 := 164) h (w_X10_init ht hz22) mi_X10_init mn_X10_init rfl (by decide +kernel) dX5_init_30 rfl ⟨Nat.le_of_ble_eq_true rfl, Nat.le_of_ble_eq_true rfl⟩ (Nat.le_of_ble_eq_true rfl) rfl rfl ⟨Nat.le_of_ble_eq_true rfl, Nat.le_of_ble_eq_true rfl⟩ rfl ?_
  obtain ⟨g21, hF⟩ := gI hF
  obtain ⟨g22, hF⟩ := gI hF
  obtain ⟨z23, hz23, hF⟩ := swI hF
  refine cn_aast (i := 6) (ci := 10) (t0 := 4) h dX5_init_33 g21 (Or.inr ⟨rfl, rfl⟩) rfl rfl (by decide) g22 (by decide) hz23 ?_
  refine st_iinc_1 (y := 7) h dX5_init_34 (by decide) ?_
  refine st_goto (t := 15) h dX5_init_37 (by decide) ?_
  refine st_iload_1 h dX5_init_15 ?_
  refine st_bipush (v := 10) h dX5_init_16 (by decide) ?_
  refine st_icmp_ge (t := 40) h dX5_init_18 (by decide) (fun q => absurd q (by decide)) (fun _ => ?_)
  refine st_aload_0 h dX5_init_21 ?_
  obtain ⟨g23, hF⟩ := gI hF
  obtain ⟨x8, hx8, hF⟩ := bI hF
  refine cn_getr h 0 cf_X5 (by decide) fl_X5_11 (Or.inr ⟨_, rfl⟩) dX5_init_22 g23 hx8 ?_
  refine st_iload_1 h dX5_init_25 ?_
  obtain ⟨z24, hz24, hF⟩ := swI hF
  refine cn_new (cells1 := 37) (slots1 := 170) h cf_X10 kl_X5_9 ins_X10 ini_X10 dX5_init_26 ht hz24 rfl rfl ⟨Nat.le_of_ble_eq_true rfl, Nat.le_of_ble_eq_true rfl⟩ ?_
  refine st_dup h rfl dX5_init_29 ?_
  obtain ⟨z25, hz25, hF⟩ := bI hF
  refine cn_callN (vs := []) (st := [.ref z23.2.1, .int 7, .ref x8]) (host := "BasketCap") (cells1 := 41) (slots1 := 186) h (w_X10_init ht hz25) mi_X10_init mn_X10_init rfl (by decide +kernel) dX5_init_30 rfl ⟨Nat.le_of_ble_eq_true rfl, Nat.le_of_ble_eq_true rfl⟩ (Nat.le_of_ble_eq_true rfl) rfl rfl ⟨Nat.le_of_ble_eq_true rfl, Nat.le_of_ble_eq_true rfl⟩ rfl ?_
  obtain ⟨g24, hF⟩ := gI hF
  obtain ⟨g25, hF⟩ := gI hF
  obtain ⟨z26, hz26, hF⟩ := swI hF
  refine cn_aast (i := 7) (ci := 10) (t0 := 4) h dX5_init_33 g24 (Or.inr ⟨rfl, rfl⟩) rfl rfl (by decide) g25 (by decide) hz26 ?_
  refine st_iinc_1 (y := 8) h dX5_init_34 (by decide) ?_
  refine st_goto (t := 15) h dX5_init_37 (by decide) ?_
  refine st_iload_1 h dX5_init_15 ?_
  refine st_bipush (v := 10) h dX5_init_16 (by decide) ?_
  refine st_icmp_ge (t := 40) h dX5_init_18 (by decide) (fun q => absurd q (by decide)) (fun _ => ?_)
  refine st_aload_0 h dX5_init_21 ?_
  obtain ⟨g26, hF⟩ := gI hF
  obtain ⟨x9, hx9, hF⟩ := bI hF
  refine cn_getr h 0 cf_X5 (by decide) fl_X5_11 (Or.inr ⟨_, rfl⟩) dX5_init_22 g26 hx9 ?_
  refine st_iload_1 h dX5_init_25 ?_
  obtain ⟨z27, hz27, hF⟩ := swI hF
  refine cn_new (cells1 := 42) (slots1 := 192) h cf_X10 kl_X5_9 ins_X10 ini_X10 dX5_init_26 ht hz27 rfl rfl ⟨Nat.le_of_ble_eq_true rfl, Nat.le_of_ble_eq_true rfl⟩ ?_
  refine st_dup h rfl dX5_init_29 ?_
  obtain ⟨z28, hz28, hF⟩ := bI hF
  refine cn_callN (vs := []) (st := [.ref z26.2.1, .int 8, .ref x9]) (host := "BasketCap") (cells1 := 46) (slots1 := 208) h (w_X10_init ht hz28) mi_X10_init mn_X10_init rfl (by decide +kernel) dX5_init_30 rfl ⟨Nat.le_of_ble_eq_true rfl, Nat.le_of_ble_eq_true rfl⟩ (Nat.le_of_ble_eq_true rfl) rfl rfl ⟨Nat.le_of_ble_eq_true rfl, Nat.le_of_ble_eq_true rfl⟩ rfl ?_
  obtain ⟨g27, hF⟩ := gI hF
  obtain ⟨g28, hF⟩ := gI hF
  obtain ⟨z29, hz29, hF⟩ := swI hF
  refine cn_aast (i := 8) (ci := 10) (t0 := 4) h dX5_init_33 g27 (Or.inr ⟨rfl, rfl⟩) rfl rfl (by decide) g28 (by decide) hz29 ?_
  refine st_iinc_1 (y := 9) h dX5_init_34 (by decide) ?_
  refine st_goto (t := 15) h dX5_init_37 (by decide) ?_
  refine st_iload_1 h dX5_init_15 ?_
  refine st_bipush (v := 10) h dX5_init_16 (by decide) ?_
  refine st_icmp_ge (t := 40) h dX5_init_18 (by decide) (fun q => absurd q (by decide)) (fun _ => ?_)
  refine st_aload_0 h dX5_init_21 ?_
  obtain ⟨g29, hF⟩ := gI hF
  obtain ⟨x10, hx10, hF⟩ := bI hF
  refine cn_getr h 0 cf_X5 (by decide) fl_X5_11 (Or.inr ⟨_, rfl⟩) dX5_init_22 g29 hx10 ?_
  refine st_iload_1 h dX5_init_25 ?_
  obtain ⟨z30, hz30, hF⟩ := swI hF
  refine cn_new (cells1 := 47) (slots1 := 214) h cf_X10 kl_X5_9 ins_X10 ini_X10 dX5_init_26 ht hz30 rfl rfl ⟨Nat.le_of_ble_eq_true rfl, Nat.le_of_ble_eq_true rfl⟩ ?_
  refine st_dup h rfl dX5_init_29 ?_
  obtain ⟨z31, hz31, hF⟩ := bI hF
  refine cn_callN (vs := []) (st := [.ref z29.2.1, .int 9, .ref x10]) (host := "BasketCap") (cells1 := 51) (slots1 := 230) h (w_X10_init ht hz31) mi_X10_init mn_X10_init rfl (by decide +kernel) dX5_init_30 rfl ⟨Nat.le_of_ble_eq_true rfl, Nat.le_of_ble_eq_true rfl⟩ (Nat.le_of_ble_eq_true rfl) rfl rfl ⟨Nat.le_of_ble_eq_true rfl, Nat.le_of_ble_eq_true rfl⟩ rfl ?_
  obtain ⟨g30, hF⟩ := gI hF
  obtain ⟨g31, hF⟩ := gI hF
  obtain ⟨z32, hz32, hF⟩ := swI hF
  refine cn_aast (i := 9) (ci := 10) (t0 := 4) h dX5_init_33 g30 (Or.inr ⟨rfl, rfl⟩) rfl rfl (by decide) g31 (by decide) hz32 ?_
  refine st_iinc_1 (y := 10) h dX5_init_34 (by decide) ?_
  refine st_goto (t := 15) h dX5_init_37 (by decide) ?_
  refine st_iload_1 h dX5_init_15 ?_
  refine st_bipush (v := 10) h dX5_init_16 (by decide) ?_
  refine st_icmp_ge (t := 40) h dX5_init_18 (by decide) (fun _ => ?_) (fun q => absurd (by decide) q)
  cases hF
  exact st_vret h hr dX5_init_40
def K_X8_init (z0 : CSt) (a0 : Nat) : Option CSt := (sw (mkc z0 (20, 20)) fun z1 => if (z1.1 a0).1 = 8 then ((sw (z1.1, z1.2.1, sr z1.2.2 a0 2 (some z0.2.1)) fun z2 => (sw (mkc z2 (20, 5)) fun z3 => if (z3.1 a0).1 = 8 then ((sw (z3.1, z3.2.1, sr z3.2.2 a0 3 (some z2.2.1)) fun z4 => (sw (mkc z4 (20, 4)) fun z5 => if (z5.1 a0).1 = 8 then ((sw (z5.1, z5.2.1, sr z5.2.2 a0 4 (some z4.2.1)) fun z6 => (sw (mkc z6 (20, 4)) fun z7 => if (z7.1 a0).1 = 8 then ((sw (z7.1, z7.2.1, sr z7.2.2 a0 5 (some z6.2.1)) fun z8 => (sw (mkc z8 (20, 4)) fun z9 => if (z9.1 a0).1 = 8 then ((sw (z9.1, z9.2.1, sr z9.2.2 a0 6 (some z8.2.1)) fun z10 => (sw (mkc z10 (20, 84)) fun z11 => if (z11.1 a0).1 = 8 then ((sw (z11.1, z11.2.1, sr z11.2.2 a0 7 (some z10.2.1)) fun z12 => (sw (mkc z12 (20, 84)) fun z13 => if (z13.1 a0).1 = 8 then ((sw (z13.1, z13.2.1, sr z13.2.2 a0 8 (some z12.2.1)) fun z14 => (sw (mkc z14 (20, 84)) fun z15 => if (z15.1 a0).1 = 8 then ((sw (z15.1, z15.2.1, sr z15.2.2 a0 9 (some z14.2.1)) fun z16 => (sw (mkc z16 (20, 4)) fun z17 => if (z17.1 a0).1 = 8 then ((sw (z17.1, z17.2.1, sr z17.2.2 a0 10 (some z16.2.1)) fun z18 => (sw (mkc z18 (20, 4)) fun z19 => if (z19.1 a0).1 = 8 then ((sw (z19.1, z19.2.1, sr z19.2.2 a0 11 (some z18.2.1)) fun z20 => (sw (mkc z20 (20, 5)) fun z21 => if (z21.1 a0).1 = 8 then ((sw (z21.1, z21.2.1, sr z21.2.2 a0 12 (some z20.2.1)) fun z22 => some z22)) else none))) else none))) else none))) else none))) else none))) else none))) else none))) else none))) else none))) else none))) else none)
set_option maxRecDepth 100000 in
set_option maxHeartbeats 4000000 in
theorem w_X8_init {l : Launch} {G : Gv} (ht : G.2.2.1.2 = 0) {z0 z : CSt} {a0 : Nat} (hF : K_X8_init z0 a0 = some z) : ConG l yX8_init cX8_init 1 none 1 11 302 G z0.1 (z0.2.1, true) [.ref a0] z0.2.2 none z.1 (z.2.1, true) z.2.2 := by
  rw [K_X8_init] at hF
  refine Con_enter (own := RX8) 0 (lv := [some (.ref a0)]) mi_X8_init.2.2.2 rfl (Nat.le_of_ble_eq_true rfl) rfl (fun h hr hin => ?_)
  refine st_aload_0 h dX8_init_0 ?_
  refine cn_obj h ml_X8_5 dX8_init_1 ⟨Nat.le_of_ble_eq_true rfl, Nat.le_of_ble_eq_true rfl⟩ (Nat.le_of_ble_eq_true rfl) ?_
  refine st_aload_0 h dX8_init_4 ?_
  refine st_bipush (v := 20) h dX8_init_5 (by decide) ?_
  obtain ⟨z1, hz1, hF⟩ := swI hF
  refine cn_newI (cells1 := 1) (slots1 := 20) h dX8_init_7 ht (by decide) (by decide) (by decide) hz1 rfl rfl ⟨Nat.le_of_ble_eq_true rfl, Nat.le_of_ble_eq_true rfl⟩ ?_
  obtain ⟨g1, hF⟩ := gI hF
  obtain ⟨z2, hz2, hF⟩ := swI hF
  refine cn_putr h 2 cf_X8 (by decide) fl_X8_11 (Or.inr ⟨rfl, hin, rfl⟩) (Or.inr ⟨_, rfl⟩) dX8_init_9 g1 hz2 ?_
  refine st_aload_0 h dX8_init_12 ?_
  refine st_ic_5 h dX8_init_13 ?_
  obtain ⟨z3, hz3, hF⟩ := swI hF
  refine cn_newI (cells1 := 2) (slots1 := 25) h dX8_init_14 ht (by decide) (by decide) (by decide) hz3 rfl rfl ⟨Nat.le_of_ble_eq_true rfl, Nat.le_of_ble_eq_true rfl⟩ ?_
  obtain ⟨g2, hF⟩ := gI hF
  obtain ⟨z4, hz4, hF⟩ := swI hF
  refine cn_putr h 3 cf_X8 (by decide) fl_X8_15 (Or.inr ⟨rfl, hin, rfl⟩) (Or.inr ⟨_, rfl⟩) dX8_init_16 g2 hz4 ?_
  refine st_aload_0 h dX8_init_19 ?_
  refine st_ic_4 h dX8_init_20 ?_
  obtain ⟨z5, hz5, hF⟩ := swI hF
  refine cn_newI (cells1 := 3) (slots1 := 29) h dX8_init_21 ht (by decide) (by decide) (by decide) hz5 rfl rfl ⟨Nat.le_of_ble_eq_true rfl, Nat.le_of_ble_eq_true rfl⟩ ?_
  obtain ⟨g3, hF⟩ := gI hF
  obtain ⟨z6, hz6, hF⟩ := swI hF
  refine cn_putr h 4 cf_X8 (by decide) fl_X8_18 (Or.inr ⟨rfl, hin, rfl⟩) (Or.inr ⟨_, rfl⟩) dX8_init_23 g3 hz6 ?_
  refine st_aload_0 h dX8_init_26 ?_
  refine st_ic_4 h dX8_init_27 ?_
  obtain ⟨z7, hz7, hF⟩ := swI hF
  refine cn_newI (cells1 := 4) (slots1 := 33) h dX8_init_28 ht (by decide) (by decide) (by decide) hz7 rfl rfl ⟨Nat.le_of_ble_eq_true rfl, Nat.le_of_ble_eq_true rfl⟩ ?_
  obtain ⟨g4, hF⟩ := gI hF
  obtain ⟨z8, hz8, hF⟩ := swI hF
  refine cn_putr h 5 cf_X8 (by decide) fl_X8_21 (Or.inr ⟨rfl, hin, rfl⟩) (Or.inr ⟨_, rfl⟩) dX8_init_30 g4 hz8 ?_
  refine st_aload_0 h dX8_init_33 ?_
  refine st_ic_4 h dX8_init_34 ?_
  obtain ⟨z9, hz9, hF⟩ := swI hF
  refine cn_newI (cells1 := 5) (slots1 := 37) h dX8_init_35 ht (by decide) (by decide) (by decide) hz9 rfl rfl ⟨Nat.le_of_ble_eq_true rfl, Nat.le_of_ble_eq_true rfl⟩ ?_
  obtain ⟨g5, hF⟩ := gI hF
  obtain ⟨z10, hz10, hF⟩ := swI hF
  refine cn_putr h 6 cf_X8 (by decide) fl_X8_24 (Or.inr ⟨rfl, hin, rfl⟩) (Or.inr ⟨_, rfl⟩) dX8_init_37 g5 hz10 ?_
  refine st_aload_0 h dX8_init_40 ?_
  refine st_bipush (v := 84) h dX8_init_41 (by decide) ?_
  obtain ⟨z11, hz11, hF⟩ := swI hF
  refine cn_newI (cells1 := 6) (slots1 := 121) h dX8_init_43 ht (by decide) (by decide) (by decide) hz11 rfl rfl ⟨Nat.le_of_ble_eq_true rfl, Nat.le_of_ble_eq_true rfl⟩ ?_
  obtain ⟨g6, hF⟩ := gI hF
  obtain ⟨z12, hz12, hF⟩ := swI hF
  refine cn_putr h 7 cf_X8 (by decide) fl_X8_27 (Or.inr ⟨rfl, hin, rfl⟩) (Or.inr ⟨_, rfl⟩) dX8_init_45 g6 hz12 ?_
  refine st_aload_0 h dX8_init_48 ?_
  refine st_bipush (v := 84) h dX8_init_49 (by decide) ?_
  obtain ⟨z13, hz13, hF⟩ := swI hF
  refine cn_newI (cells1 := 7) (slots1 := 205) h dX8_init_51 ht (by decide) (by decide) (by decide) hz13 rfl rfl ⟨Nat.le_of_ble_eq_true rfl, Nat.le_of_ble_eq_true rfl⟩ ?_
  obtain ⟨g7, hF⟩ := gI hF
  obtain ⟨z14, hz14, hF⟩ := swI hF
  refine cn_putr h 8 cf_X8 (by decide) fl_X8_30 (Or.inr ⟨rfl, hin, rfl⟩) (Or.inr ⟨_, rfl⟩) dX8_init_53 g7 hz14 ?_
  refine st_aload_0 h dX8_init_56 ?_
  refine st_bipush (v := 84) h dX8_init_57 (by decide) ?_
  obtain ⟨z15, hz15, hF⟩ := swI hF
  refine cn_newI (cells1 := 8) (slots1 := 289) h dX8_init_59 ht (by decide) (by decide) (by decide) hz15 rfl rfl ⟨Nat.le_of_ble_eq_true rfl, Nat.le_of_ble_eq_true rfl⟩ ?_
  obtain ⟨g8, hF⟩ := gI hF
  obtain ⟨z16, hz16, hF⟩ := swI hF
  refine cn_putr h 9 cf_X8 (by decide) fl_X8_33 (Or.inr ⟨rfl, hin, rfl⟩) (Or.inr ⟨_, rfl⟩) dX8_init_61 g8 hz16 ?_
  refine st_aload_0 h dX8_init_64 ?_
  refine st_ic_4 h dX8_init_65 ?_
  obtain ⟨z17, hz17, hF⟩ := swI hF
  refine cn_newI (cells1 := 9) (slots1 := 293) h dX8_init_66 ht (by decide) (by decide) (by decide) hz17 rfl rfl ⟨Nat.le_of_ble_eq_true rfl, Nat.le_of_ble_eq_true rfl⟩ ?_
  obtain ⟨g9, hF⟩ := gI hF
  obtain ⟨z18, hz18, hF⟩ := swI hF
  refine cn_putr h 10 cf_X8 (by decide) fl_X8_36 (Or.inr ⟨rfl, hin, rfl⟩) (Or.inr ⟨_, rfl⟩) dX8_init_68 g9 hz18 ?_
  refine st_aload_0 h dX8_init_71 ?_
  refine st_ic_4 h dX8_init_72 ?_
  obtain ⟨z19, hz19, hF⟩ := swI hF
  refine cn_newI (cells1 := 10) (slots1 := 297) h dX8_init_73 ht (by decide) (by decide) (by decide) hz19 rfl rfl ⟨Nat.le_of_ble_eq_true rfl, Nat.le_of_ble_eq_true rfl⟩ ?_
  obtain ⟨g10, hF⟩ := gI hF
  obtain ⟨z20, hz20, hF⟩ := swI hF
  refine cn_putr h 11 cf_X8 (by decide) fl_X8_39 (Or.inr ⟨rfl, hin, rfl⟩) (Or.inr ⟨_, rfl⟩) dX8_init_75 g10 hz20 ?_
  refine st_aload_0 h dX8_init_78 ?_
  refine st_ic_5 h dX8_init_79 ?_
  obtain ⟨z21, hz21, hF⟩ := swI hF
  refine cn_newI (cells1 := 11) (slots1 := 302) h dX8_init_80 ht (by decide) (by decide) (by decide) hz21 rfl rfl ⟨Nat.le_of_ble_eq_true rfl, Nat.le_of_ble_eq_true rfl⟩ ?_
  obtain ⟨g11, hF⟩ := gI hF
  obtain ⟨z22, hz22, hF⟩ := swI hF
  refine cn_putr h 12 cf_X8 (by decide) fl_X8_42 (Or.inr ⟨rfl, hin, rfl⟩) (Or.inr ⟨_, rfl⟩) dX8_init_82 g11 hz22 ?_
  cases hF
  exact st_vret h hr dX8_init_85
def K_X7_init (z0 : CSt) (a0 : Nat) : Option CSt := (sw (mkc z0 (20, 4)) fun z1 => if (z1.1 a0).1 = 7 then ((sw (z1.1, z1.2.1, sr z1.2.2 a0 3 (some z0.2.1)) fun z2 => some z2)) else none)
set_option maxRecDepth 100000 in
set_option maxHeartbeats 4000000 in
theorem w_X7_init {l : Launch} {G : Gv} (ht : G.2.2.1.2 = 0) {z0 z : CSt} {a0 : Nat} (hF : K_X7_init z0 a0 = some z) : ConG l yX7_init cX7_init 1 none 1 1 4 G z0.1 (z0.2.1, true) [.ref a0] z0.2.2 none z.1 (z.2.1, true) z.2.2 := by
  rw [K_X7_init] at hF
  refine Con_enter (own := RX7) 0 (lv := [some (.ref a0)]) mi_X7_init.2.2.2 rfl (Nat.le_of_ble_eq_true rfl) rfl (fun h hr hin => ?_)
  refine st_aload_0 h dX7_init_0 ?_
  refine cn_obj h ml_X7_3 dX7_init_1 ⟨Nat.le_of_ble_eq_true rfl, Nat.le_of_ble_eq_true rfl⟩ (Nat.le_of_ble_eq_true rfl) ?_
  refine st_aload_0 h dX7_init_4 ?_
  refine st_ic_4 h dX7_init_5 ?_
  obtain ⟨z1, hz1, hF⟩ := swI hF
  refine cn_newI (cells1 := 1) (slots1 := 4) h dX7_init_6 ht (by decide) (by decide) (by decide) hz1 rfl rfl ⟨Nat.le_of_ble_eq_true rfl, Nat.le_of_ble_eq_true rfl⟩ ?_
  obtain ⟨g1, hF⟩ := gI hF
  obtain ⟨z2, hz2, hF⟩ := swI hF
  refine cn_putr h 3 cf_X7 (by decide) fl_X7_9 (Or.inr ⟨rfl, hin, rfl⟩) (Or.inr ⟨_, rfl⟩) dX7_init_8 g1 hz2 ?_
  cases hF
  exact st_vret h hr dX7_init_11
def K_X2_init (z0 : CSt) (a0 : Nat) (a1 : Nat) : Option CSt := (sw (mkc z0 (7, 0)) fun z1 => ((K_X7_init z1 z0.2.1).bind fun z2 => if (z2.1 a0).1 = 2 then ((sw (z2.1, z2.2.1, sr z2.2.2 a0 1 (some z0.2.1)) fun z3 => (sw (mkc z3 (7, 0)) fun z4 => ((K_X7_init z4 z3.2.1).bind fun z5 => if (z5.1 a0).1 = 2 then ((sw (z5.1, z5.2.1, sr z5.2.2 a0 2 (some z3.2.1)) fun z6 => (sw (mkc z6 (7, 0)) fun z7 => ((K_X7_init z7 z6.2.1).bind fun z8 => if (z8.1 a0).1 = 2 then ((sw (z8.1, z8.2.1, sr z8.2.2 a0 3 (some z6.2.1)) fun z9 => (sw (mkc z9 (7, 0)) fun z10 => ((K_X7_init z10 z9.2.1).bind fun z11 => if (z11.1 a0).1 = 2 then ((sw (z11.1, z11.2.1, sr z11.2.2 a0 4 (some z9.2.1)) fun z12 => if (z12.1 a0).1 = 2 then ((sw (z12.1, z12.2.1, sr z12.2.2 a0 0 (some a1)) fun z13 => some z13)) else none)) else none)))) else none)))) else none)))) else none))
set_option maxRecDepth 100000 in
set_option maxHeartbeats 4000000 in
theorem w_X2_init {l : Launch} {G : Gv} (ht : G.2.2.1.2 = 0) {z0 z : CSt} {a0 a1 : Nat} (hF : K_X2_init z0 a0 a1 = some z) : ConG l yX2_init cX2_init 2 none 2 8 32 G z0.1 (z0.2.1, true) [.ref a0, .ref a1] z0.2.2 none z.1 (z.2.1, true) z.2.2 := by
  rw [K_X2_init] at hF
  refine Con_enter (own := RX2) 0 (lv := [some (.ref a0), some (.ref a1)]) mi_X2_init.2.2.2 rfl (Nat.le_of_ble_eq_true rfl) rfl (fun h hr hin => ?_)
  refine st_aload_0 h dX2_init_0 ?_
  refine cn_obj h ml_X2_3 dX2_init_1 ⟨Nat.le_of_ble_eq_true rfl, Nat.le_of_ble_eq_true rfl⟩ (Nat.le_of_ble_eq_true rfl) ?_
  refine st_aload_0 h dX2_init_4 ?_
  obtain ⟨z1, hz1, hF⟩ := swI hF
  refine cn_new (cells1 := 1) (slots1 := 4) h cf_X7 kl_X2_9 ins_X7 ini_X7 dX2_init_5 ht hz1 rfl rfl ⟨Nat.le_of_ble_eq_true rfl, Nat.le_of_ble_eq_true rfl⟩ ?_
  refine st_dup h rfl dX2_init_8 ?_
  obtain ⟨z2, hz2, hF⟩ := bI hF
  refine cn_callN (vs := []) (st := [.ref z0.2.1, .ref a0]) (host := "BasketCap") (cells1 := 2) (slots1 := 8) h (w_X7_init ht hz2) mi_X7_init mn_X7_init rfl (by decide +kernel) dX2_init_9 rfl ⟨Nat.le_of_ble_eq_true rfl, Nat.le_of_ble_eq_true rfl⟩ (Nat.le_of_ble_eq_true rfl) rfl rfl ⟨Nat.le_of_ble_eq_true rfl, Nat.le_of_ble_eq_true rfl⟩ rfl ?_
  obtain ⟨g1, hF⟩ := gI hF
  obtain ⟨z3, hz3, hF⟩ := swI hF
  refine cn_putr h 1 cf_X2 (by decide) fl_X2_12 (Or.inr ⟨rfl, hin, rfl⟩) (Or.inl ⟨_, rfl⟩) dX2_init_12 g1 hz3 ?_
  refine st_aload_0 h dX2_init_15 ?_
  obtain ⟨z4, hz4, hF⟩ := swI hF
  refine cn_new (cells1 := 3) (slots1 := 12) h cf_X7 kl_X2_9 ins_X7 ini_X7 dX2_init_16 ht hz4 rfl rfl ⟨Nat.le_of_ble_eq_true rfl, Nat.le_of_ble_eq_true rfl⟩ ?_
  refine st_dup h rfl dX2_init_19 ?_
  obtain ⟨z5, hz5, hF⟩ := bI hF
  refine cn_callN (vs := []) (st := [.ref z3.2.1, .ref a0]) (host := "BasketCap") (cells1 := 4) (slots1 := 16) h (w_X7_init ht hz5) mi_X7_init mn_X7_init rfl (by decide +kernel) dX2_init_20 rfl ⟨Nat.le_of_ble_eq_true rfl, Nat.le_of_ble_eq_true rfl⟩ (Nat.le_of_ble_eq_true rfl) rfl rfl ⟨Nat.le_of_ble_eq_true rfl, Nat.le_of_ble_eq_true rfl⟩ rfl ?_
  obtain ⟨g2, hF⟩ := gI hF
  obtain ⟨z6, hz6, hF⟩ := swI hF
  refine cn_putr h 2 cf_X2 (by decide) fl_X2_18 (Or.inr ⟨rfl, hin, rfl⟩) (Or.inl ⟨_, rfl⟩) dX2_init_23 g2 hz6 ?_
  refine st_aload_0 h dX2_init_26 ?_
  obtain ⟨z7, hz7, hF⟩ := swI hF
  refine cn_new (cells1 := 5) (slots1 := 20) h cf_X7 kl_X2_9 ins_X7 ini_X7 dX2_init_27 ht hz7 rfl rfl ⟨Nat.le_of_ble_eq_true rfl, Nat.le_of_ble_eq_true rfl⟩ ?_
  refine st_dup h rfl dX2_init_30 ?_
  obtain ⟨z8, hz8, hF⟩ := bI hF
  refine cn_callN (vs := []) (st := [.ref z6.2.1, .ref a0]) (host := "BasketCap") (cells1 := 6) (slots1 := 24) h (w_X7_init ht hz8) mi_X7_init mn_X7_init rfl (by decide +kernel) dX2_init_31 rfl ⟨Nat.le_of_ble_eq_true rfl, Nat.le_of_ble_eq_true rfl⟩ (Nat.le_of_ble_eq_true rfl) rfl rfl ⟨Nat.le_of_ble_eq_true rfl, Nat.le_of_ble_eq_true rfl⟩ rfl ?_
  obtain ⟨g3, hF⟩ := gI hF
  obtain ⟨z9, hz9, hF⟩ := swI hF
  refine cn_putr h 3 cf_X2 (by decide) fl_X2_21 (Or.inr ⟨rfl, hin, rfl⟩) (Or.inl ⟨_, rfl⟩) dX2_init_34 g3 hz9 ?_
  refine st_aload_0 h dX2_init_37 ?_
  obtain ⟨z10, hz10, hF⟩ := swI hF
  refine cn_new (cells1 := 7) (slots1 := 28) h cf_X7 kl_X2_9 ins_X7 ini_X7 dX2_init_38 ht hz10 rfl rfl ⟨Nat.le_of_ble_eq_true rfl, Nat.le_of_ble_eq_true rfl⟩ ?_
  refine st_dup h rfl dX2_init_41 ?_
  obtain ⟨z11, hz11, hF⟩ := bI hF
  refine cn_callN (vs := []) (st := [.ref z9.2.1, .ref a0]) (host := "BasketCap") (cells1 := 8) (slots1 := 32) h (w_X7_init ht hz11) mi_X7_init mn_X7_init rfl (by decide +kernel) dX2_init_42 rfl ⟨Nat.le_of_ble_eq_true rfl, Nat.le_of_ble_eq_true rfl⟩ (Nat.le_of_ble_eq_true rfl) rfl rfl ⟨Nat.le_of_ble_eq_true rfl, Nat.le_of_ble_eq_true rfl⟩ rfl ?_
  obtain ⟨g4, hF⟩ := gI hF
  obtain ⟨z12, hz12, hF⟩ := swI hF
  refine cn_putr h 4 cf_X2 (by decide) fl_X2_24 (Or.inr ⟨rfl, hin, rfl⟩) (Or.inl ⟨_, rfl⟩) dX2_init_45 g4 hz12 ?_
  refine st_aload_0 h dX2_init_48 ?_
  refine st_aload_1 h dX2_init_49 ?_
  obtain ⟨g5, hF⟩ := gI hF
  obtain ⟨z13, hz13, hF⟩ := swI hF
  refine cn_putr h 0 cf_X2 (by decide) fl_X2_27 (Or.inr ⟨rfl, hin, rfl⟩) (Or.inl ⟨_, rfl⟩) dX2_init_50 g5 hz13 ?_
  cases hF
  exact st_vret h hr dX2_init_53
def K_X4_init (z0 : CSt) (a0 : Nat) (a1 : Nat) : Option CSt := (sw (mkc z0 (7, 0)) fun z1 => ((K_X7_init z1 z0.2.1).bind fun z2 => if (z2.1 a0).1 = 4 then ((sw (z2.1, z2.2.1, sr z2.2.2 a0 1 (some z0.2.1)) fun z3 => (sw (mkc z3 (10, 0)) fun z4 => ((K_X10_init z4 z3.2.1).bind fun z5 => if (z5.1 a0).1 = 4 then ((sw (z5.1, z5.2.1, sr z5.2.2 a0 2 (some z3.2.1)) fun z6 => (sw (mkc z6 (10, 0)) fun z7 => ((K_X10_init z7 z6.2.1).bind fun z8 => if (z8.1 a0).1 = 4 then ((sw (z8.1, z8.2.1, sr z8.2.2 a0 3 (some z6.2.1)) fun z9 => (sw (mkc z9 (20, 36)) fun z10 => if (z10.1 a0).1 = 4 then ((sw (z10.1, z10.2.1, sr z10.2.2 a0 4 (some z9.2.1)) fun z11 => (sw (mkc z11 (20, 4)) fun z12 => if (z12.1 a0).1 = 4 then ((sw (z12.1, z12.2.1, sr z12.2.2 a0 5 (some z11.2.1)) fun z13 => if (z13.1 a0).1 = 4 then ((sw (z13.1, z13.2.1, sr z13.2.2 a0 0 (some a1)) fun z14 => some z14)) else none)) else none))) else none))) else none)))) else none)))) else none))
set_option maxRecDepth 100000 in
set_option maxHeartbeats 4000000 in
theorem w_X4_init {l : Launch} {G : Gv} (ht : G.2.2.1.2 = 0) {z0 z : CSt} {a0 a1 : Nat} (hF : K_X4_init z0 a0 a1 = some z) : ConG l yX4_init cX4_init 2 none 2 14 92 G z0.1 (z0.2.1, true) [.ref a0, .ref a1] z0.2.2 none z.1 (z.2.1, true) z.2.2 := by
  rw [K_X4_init] at hF
  refine Con_enter (own := RX4) 0 (lv := [some (.ref a0), some (.ref a1)]) mi_X4_init.2.2.2 rfl (Nat.le_of_ble_eq_true rfl) rfl (fun h hr hin => ?_)
  refine st_aload_0 h dX4_init_0 ?_
  refine cn_obj h ml_X4_3 dX4_init_1 ⟨Nat.le_of_ble_eq_true rfl, Nat.le_of_ble_eq_true rfl⟩ (Nat.le_of_ble_eq_true rfl) ?_
  refine st_aload_0 h dX4_init_4 ?_
  obtain ⟨z1, hz1, hF⟩ := swI hF
  refine cn_new (cells1 := 1) (slots1 := 4) h cf_X7 kl_X4_9 ins_X7 ini_X7 dX4_init_5 ht hz1 rfl rfl ⟨Nat.le_of_ble_eq_true rfl, Nat.le_of_ble_eq_true rfl⟩ ?_
  refine st_dup h rfl dX4_init_8 ?_
  obtain ⟨z2, hz2, hF⟩ := bI hF
  refine cn_callN (vs := []) (st := [.ref z0.2.1, .ref a0]) (host := "BasketCap") (cells1 := 2) (slots1 := 8) h (w_X7_init ht hz2) mi_X7_init mn_X7_init rfl (by decide +kernel) dX4_init_9 rfl ⟨Nat.le_of_ble_eq_true rfl, Nat.le_of_ble_eq_true rfl⟩ (Nat.le_of_ble_eq_true rfl) rfl rfl ⟨Nat.le_of_ble_eq_true rfl, Nat.le_of_ble_eq_true rfl⟩ rfl ?_
  obtain ⟨g1, hF⟩ := gI hF
  obtain ⟨z3, hz3, hF⟩ := swI hF
  refine cn_putr h 1 cf_X4 (by decide) fl_X4_12 (Or.inr ⟨rfl, hin, rfl⟩) (Or.inl ⟨_, rfl⟩) dX4_init_12 g1 hz3 ?_
  refine st_aload_0 h dX4_init_15 ?_
  obtain ⟨z4, hz4, hF⟩ := swI hF
  refine cn_new (cells1 := 3) (slots1 := 14) h cf_X10 kl_X4_18 ins_X10 ini_X10 dX4_init_16 ht hz4 rfl rfl ⟨Nat.le_of_ble_eq_true rfl, Nat.le_of_ble_eq_true rfl⟩ ?_
  refine st_dup h rfl dX4_init_19 ?_
  obtain ⟨z5, hz5, hF⟩ := bI hF
  refine cn_callN (vs := []) (st := [.ref z3.2.1, .ref a0]) (host := "BasketCap") (cells1 := 7) (slots1 := 30) h (w_X10_init ht hz5) mi_X10_init mn_X10_init rfl (by decide +kernel) dX4_init_20 rfl ⟨Nat.le_of_ble_eq_true rfl, Nat.le_of_ble_eq_true rfl⟩ (Nat.le_of_ble_eq_true rfl) rfl rfl ⟨Nat.le_of_ble_eq_true rfl, Nat.le_of_ble_eq_true rfl⟩ rfl ?_
  obtain ⟨g2, hF⟩ := gI hF
  obtain ⟨z6, hz6, hF⟩ := swI hF
  refine cn_putr h 2 cf_X4 (by decide) fl_X4_21 (Or.inr ⟨rfl, hin, rfl⟩) (Or.inl ⟨_, rfl⟩) dX4_init_23 g2 hz6 ?_
  refine st_aload_0 h dX4_init_26 ?_
  obtain ⟨z7, hz7, hF⟩ := swI hF
  refine cn_new (cells1 := 8) (slots1 := 36) h cf_X10 kl_X4_18 ins_X10 ini_X10 dX4_init_27 ht hz7 rfl rfl ⟨Nat.le_of_ble_eq_true rfl, Nat.le_of_ble_eq_true rfl⟩ ?_
  refine st_dup h rfl dX4_init_30 ?_
  obtain ⟨z8, hz8, hF⟩ := bI hF
  refine cn_callN (vs := []) (st := [.ref z6.2.1, .ref a0]) (host := "BasketCap") (cells1 := 12) (slots1 := 52) h (w_X10_init ht hz8) mi_X10_init mn_X10_init rfl (by decide +kernel) dX4_init_31 rfl ⟨Nat.le_of_ble_eq_true rfl, Nat.le_of_ble_eq_true rfl⟩ (Nat.le_of_ble_eq_true rfl) rfl rfl ⟨Nat.le_of_ble_eq_true rfl, Nat.le_of_ble_eq_true rfl⟩ rfl ?_
  obtain ⟨g3, hF⟩ := gI hF
  obtain ⟨z9, hz9, hF⟩ := swI hF
  refine cn_putr h 3 cf_X4 (by decide) fl_X4_25 (Or.inr ⟨rfl, hin, rfl⟩) (Or.inl ⟨_, rfl⟩) dX4_init_34 g3 hz9 ?_
  refine st_aload_0 h dX4_init_37 ?_
  refine st_bipush (v := 36) h dX4_init_38 (by decide) ?_
  obtain ⟨z10, hz10, hF⟩ := swI hF
  refine cn_newI (cells1 := 13) (slots1 := 88) h dX4_init_40 ht (by decide) (by decide) (by decide) hz10 rfl rfl ⟨Nat.le_of_ble_eq_true rfl, Nat.le_of_ble_eq_true rfl⟩ ?_
  obtain ⟨g4, hF⟩ := gI hF
  obtain ⟨z11, hz11, hF⟩ := swI hF
  refine cn_putr h 4 cf_X4 (by decide) fl_X4_28 (Or.inr ⟨rfl, hin, rfl⟩) (Or.inr ⟨_, rfl⟩) dX4_init_42 g4 hz11 ?_
  refine st_aload_0 h dX4_init_45 ?_
  refine st_ic_4 h dX4_init_46 ?_
  obtain ⟨z12, hz12, hF⟩ := swI hF
  refine cn_newI (cells1 := 14) (slots1 := 92) h dX4_init_47 ht (by decide) (by decide) (by decide) hz12 rfl rfl ⟨Nat.le_of_ble_eq_true rfl, Nat.le_of_ble_eq_true rfl⟩ ?_
  obtain ⟨g5, hF⟩ := gI hF
  obtain ⟨z13, hz13, hF⟩ := swI hF
  refine cn_putr h 5 cf_X4 (by decide) fl_X4_32 (Or.inr ⟨rfl, hin, rfl⟩) (Or.inr ⟨_, rfl⟩) dX4_init_49 g5 hz13 ?_
  refine st_aload_0 h dX4_init_52 ?_
  refine st_aload_1 h dX4_init_53 ?_
  obtain ⟨g6, hF⟩ := gI hF
  obtain ⟨z14, hz14, hF⟩ := swI hF
  refine cn_putr h 0 cf_X4 (by decide) fl_X4_35 (Or.inr ⟨rfl, hin, rfl⟩) (Or.inl ⟨_, rfl⟩) dX4_init_54 g6 hz14 ?_
  cases hF
  exact st_vret h hr dX4_init_57
def K_X1_init (z0 : CSt) (a0 : Nat) : Option CSt := (sw (mkc z0 (20, 4)) fun z1 => if (z1.1 a0).1 = 1 then ((sw (z1.1, z1.2.1, sr z1.2.2 a0 0 (some z0.2.1)) fun z2 => some z2)) else none)
set_option maxRecDepth 100000 in
set_option maxHeartbeats 4000000 in
theorem w_X1_init {l : Launch} {G : Gv} (ht : G.2.2.1.2 = 0) {z0 z : CSt} {a0 : Nat} (hF : K_X1_init z0 a0 = some z) : ConG l yX1_init cX1_init 1 none 1 1 4 G z0.1 (z0.2.1, true) [.ref a0] z0.2.2 none z.1 (z.2.1, true) z.2.2 := by
  rw [K_X1_init] at hF
  refine Con_enter (own := RX1) 0 (lv := [some (.ref a0)]) mi_X1_init.2.2.2 rfl (Nat.le_of_ble_eq_true rfl) rfl (fun h hr hin => ?_)
  refine st_aload_0 h dX1_init_0 ?_
  refine cn_obj h ml_X1_3 dX1_init_1 ⟨Nat.le_of_ble_eq_true rfl, Nat.le_of_ble_eq_true rfl⟩ (Nat.le_of_ble_eq_true rfl) ?_
  refine st_aload_0 h dX1_init_4 ?_
  refine st_ic_4 h dX1_init_5 ?_
  obtain ⟨z1, hz1, hF⟩ := swI hF
  refine cn_newI (cells1 := 1) (slots1 := 4) h dX1_init_6 ht (by decide) (by decide) (by decide) hz1 rfl rfl ⟨Nat.le_of_ble_eq_true rfl, Nat.le_of_ble_eq_true rfl⟩ ?_
  obtain ⟨g1, hF⟩ := gI hF
  obtain ⟨z2, hz2, hF⟩ := swI hF
  refine cn_putr h 0 cf_X1 (by decide) fl_X1_9 (Or.inr ⟨rfl, hin, rfl⟩) (Or.inr ⟨_, rfl⟩) dX1_init_8 g1 hz2 ?_
  cases hF
  exact st_vret h hr dX1_init_11
def K_X9_init (z0 : CSt) (a0 : Nat) : Option CSt := (sw (mkc z0 (21, 8)) fun z1 => if (z1.1 a0).1 = 9 then ((sw (z1.1, z1.2.1, sr z1.2.2 a0 2 (some z0.2.1)) fun z2 => (sw (mkc z2 (20, 24)) fun z3 => if (z3.1 a0).1 = 9 then ((sw (z3.1, z3.2.1, sr z3.2.2 a0 3 (some z2.2.1)) fun z4 => (sw (mkc z4 (20, 16)) fun z5 => if (z5.1 a0).1 = 9 then ((sw (z5.1, z5.2.1, sr z5.2.2 a0 4 (some z4.2.1)) fun z6 => (sw (mkc z6 (20, 4)) fun z7 => if (z7.1 a0).1 = 9 then ((sw (z7.1, z7.2.1, sr z7.2.2 a0 5 (some z6.2.1)) fun z8 => (sw (mkc z8 (20, 84)) fun z9 => if (z9.1 a0).1 = 9 then ((sw (z9.1, z9.2.1, sr z9.2.2 a0 6 (some z8.2.1)) fun z10 => (sw (mkc z10 (20, 84)) fun z11 => if (z11.1 a0).1 = 9 then ((sw (z11.1, z11.2.1, sr z11.2.2 a0 7 (some z10.2.1)) fun z12 => (sw (mkc z12 (20, 84)) fun z13 => if (z13.1 a0).1 = 9 then ((sw (z13.1, z13.2.1, sr z13.2.2 a0 8 (some z12.2.1)) fun z14 => some z14)) else none))) else none))) else none))) else none))) else none))) else none))) else none)
set_option maxRecDepth 100000 in
set_option maxHeartbeats 4000000 in
theorem w_X9_init {l : Launch} {G : Gv} (ht : G.2.2.1.2 = 0) {z0 z : CSt} {a0 : Nat} (hF : K_X9_init z0 a0 = some z) : ConG l yX9_init cX9_init 1 none 1 7 304 G z0.1 (z0.2.1, true) [.ref a0] z0.2.2 none z.1 (z.2.1, true) z.2.2 := by
  rw [K_X9_init] at hF
  refine Con_enter (own := RX9) 0 (lv := [some (.ref a0)]) mi_X9_init.2.2.2 rfl (Nat.le_of_ble_eq_true rfl) rfl (fun h hr hin => ?_)
  refine st_aload_0 h dX9_init_0 ?_
  refine cn_obj h ml_X9_3 dX9_init_1 ⟨Nat.le_of_ble_eq_true rfl, Nat.le_of_ble_eq_true rfl⟩ (Nat.le_of_ble_eq_true rfl) ?_
  refine st_aload_0 h dX9_init_4 ?_
  refine st_bipush (v := 8) h dX9_init_5 (by decide) ?_
  obtain ⟨z1, hz1, hF⟩ := swI hF
  refine cn_newJ (cells1 := 1) (slots1 := 8) h dX9_init_7 ht (by decide) (by decide) (by decide) hz1 rfl rfl ⟨Nat.le_of_ble_eq_true rfl, Nat.le_of_ble_eq_true rfl⟩ ?_
  obtain ⟨g1, hF⟩ := gI hF
  obtain ⟨z2, hz2, hF⟩ := swI hF
  refine cn_putr h 2 cf_X9 (by decide) fl_X9_11 (Or.inr ⟨rfl, hin, rfl⟩) (Or.inr ⟨_, rfl⟩) dX9_init_9 g1 hz2 ?_
  refine st_aload_0 h dX9_init_12 ?_
  refine st_bipush (v := 24) h dX9_init_13 (by decide) ?_
  obtain ⟨z3, hz3, hF⟩ := swI hF
  refine cn_newI (cells1 := 2) (slots1 := 32) h dX9_init_15 ht (by decide) (by decide) (by decide) hz3 rfl rfl ⟨Nat.le_of_ble_eq_true rfl, Nat.le_of_ble_eq_true rfl⟩ ?_
  obtain ⟨g2, hF⟩ := gI hF
  obtain ⟨z4, hz4, hF⟩ := swI hF
  refine cn_putr h 3 cf_X9 (by decide) fl_X9_15 (Or.inr ⟨rfl, hin, rfl⟩) (Or.inr ⟨_, rfl⟩) dX9_init_17 g2 hz4 ?_
  refine st_aload_0 h dX9_init_20 ?_
  refine st_bipush (v := 16) h dX9_init_21 (by decide) ?_
  obtain ⟨z5, hz5, hF⟩ := swI hF
  refine cn_newI (cells1 := 3) (slots1 := 48) h dX9_init_23 ht (by decide) (by decide) (by decide) hz5 rfl rfl ⟨Nat.le_of_ble_eq_true rfl, Nat.le_of_ble_eq_true rfl⟩ ?_
  obtain ⟨g3, hF⟩ := gI hF
  obtain ⟨z6, hz6, hF⟩ := swI hF
  refine cn_putr h 4 cf_X9 (by decide) fl_X9_19 (Or.inr ⟨rfl, hin, rfl⟩) (Or.inr ⟨_, rfl⟩) dX9_init_25 g3 hz6 ?_
  refine st_aload_0 h dX9_init_28 ?_
  refine st_ic_4 h dX9_init_29 ?_
  obtain ⟨z7, hz7, hF⟩ := swI hF
  refine cn_newI (cells1 := 4) (slots1 := 52) h dX9_init_30 ht (by decide) (by decide) (by decide) hz7 rfl rfl ⟨Nat.le_of_ble_eq_true rfl, Nat.le_of_ble_eq_true rfl⟩ ?_
  obtain ⟨g4, hF⟩ := gI hF
  obtain ⟨z8, hz8, hF⟩ := swI hF
  refine cn_putr h 5 cf_X9 (by decide) fl_X9_22 (Or.inr ⟨rfl, hin, rfl⟩) (Or.inr ⟨_, rfl⟩) dX9_init_32 g4 hz8 ?_
  refine st_aload_0 h dX9_init_35 ?_
  refine st_bipush (v := 84) h dX9_init_36 (by decide) ?_
  obtain ⟨z9, hz9, hF⟩ := swI hF
  refine cn_newI (cells1 := 5) (slots1 := 136) h dX9_init_38 ht (by decide) (by decide) (by decide) hz9 rfl rfl ⟨Nat.le_of_ble_eq_true rfl, Nat.le_of_ble_eq_true rfl⟩ ?_
  obtain ⟨g5, hF⟩ := gI hF
  obtain ⟨z10, hz10, hF⟩ := swI hF
  refine cn_putr h 6 cf_X9 (by decide) fl_X9_25 (Or.inr ⟨rfl, hin, rfl⟩) (Or.inr ⟨_, rfl⟩) dX9_init_40 g5 hz10 ?_
  refine st_aload_0 h dX9_init_43 ?_
  refine st_bipush (v := 84) h dX9_init_44 (by decide) ?_
  obtain ⟨z11, hz11, hF⟩ := swI hF
  refine cn_newI (cells1 := 6) (slots1 := 220) h dX9_init_46 ht (by decide) (by decide) (by decide) hz11 rfl rfl ⟨Nat.le_of_ble_eq_true rfl, Nat.le_of_ble_eq_true rfl⟩ ?_
  obtain ⟨g6, hF⟩ := gI hF
  obtain ⟨z12, hz12, hF⟩ := swI hF
  refine cn_putr h 7 cf_X9 (by decide) fl_X9_28 (Or.inr ⟨rfl, hin, rfl⟩) (Or.inr ⟨_, rfl⟩) dX9_init_48 g6 hz12 ?_
  refine st_aload_0 h dX9_init_51 ?_
  refine st_bipush (v := 84) h dX9_init_52 (by decide) ?_
  obtain ⟨z13, hz13, hF⟩ := swI hF
  refine cn_newI (cells1 := 7) (slots1 := 304) h dX9_init_54 ht (by decide) (by decide) (by decide) hz13 rfl rfl ⟨Nat.le_of_ble_eq_true rfl, Nat.le_of_ble_eq_true rfl⟩ ?_
  obtain ⟨g7, hF⟩ := gI hF
  obtain ⟨z14, hz14, hF⟩ := swI hF
  refine cn_putr h 8 cf_X9 (by decide) fl_X9_31 (Or.inr ⟨rfl, hin, rfl⟩) (Or.inr ⟨_, rfl⟩) dX9_init_56 g7 hz14 ?_
  cases hF
  exact st_vret h hr dX9_init_59
def K_X3_init (z0 : CSt) (a0 : Nat) : Option CSt := (sw (mkc z0 (10, 0)) fun z1 => ((K_X10_init z1 z0.2.1).bind fun z2 => if (z2.1 a0).1 = 3 then ((sw (z2.1, z2.2.1, sr z2.2.2 a0 1 (some z0.2.1)) fun z3 => (sw (mkc z3 (0, 0)) fun z4 => ((K_X0_init z4 z3.2.1).bind fun z5 => if (z5.1 a0).1 = 3 then ((sw (z5.1, z5.2.1, sr z5.2.2 a0 2 (some z3.2.1)) fun z6 => some z6)) else none)))) else none))
set_option maxRecDepth 100000 in
set_option maxHeartbeats 4000000 in
theorem w_X3_init {l : Launch} {G : Gv} (ht : G.2.2.1.2 = 0) {z0 z : CSt} {a0 : Nat} (hF : K_X3_init z0 a0 = some z) : ConG l yX3_init cX3_init 1 none 2 7 419 G z0.1 (z0.2.1, true) [.ref a0] z0.2.2 none z.1 (z.2.1, true) z.2.2 := by
  rw [K_X3_init] at hF
  refine Con_enter (own := RX3) 0 (lv := [some (.ref a0)]) mi_X3_init.2.2.2 rfl (Nat.le_of_ble_eq_true rfl) rfl (fun h hr hin => ?_)
  refine st_aload_0 h dX3_init_0 ?_
  refine cn_obj h ml_X3_1 dX3_init_1 ⟨Nat.le_of_ble_eq_true rfl, Nat.le_of_ble_eq_true rfl⟩ (Nat.le_of_ble_eq_true rfl) ?_
  refine st_aload_0 h dX3_init_4 ?_
  obtain ⟨z1, hz1, hF⟩ := swI hF
  refine cn_new (cells1 := 1) (slots1 := 6) h cf_X10 kl_X3_7 ins_X10 ini_X10 dX3_init_5 ht hz1 rfl rfl ⟨Nat.le_of_ble_eq_true rfl, Nat.le_of_ble_eq_true rfl⟩ ?_
  refine st_dup h rfl dX3_init_8 ?_
  obtain ⟨z2, hz2, hF⟩ := bI hF
  refine cn_callN (vs := []) (st := [.ref z0.2.1, .ref a0]) (host := "BasketCap") (cells1 := 5) (slots1 := 22) h (w_X10_init ht hz2) mi_X10_init mn_X10_init rfl (by decide +kernel) dX3_init_9 rfl ⟨Nat.le_of_ble_eq_true rfl, Nat.le_of_ble_eq_true rfl⟩ (Nat.le_of_ble_eq_true rfl) rfl rfl ⟨Nat.le_of_ble_eq_true rfl, Nat.le_of_ble_eq_true rfl⟩ rfl ?_
  obtain ⟨g1, hF⟩ := gI hF
  obtain ⟨z3, hz3, hF⟩ := swI hF
  refine cn_putr h 1 cf_X3 (by decide) fl_X3_10 (Or.inr ⟨rfl, hin, rfl⟩) (Or.inl ⟨_, rfl⟩) dX3_init_12 g1 hz3 ?_
  refine st_aload_0 h dX3_init_15 ?_
  obtain ⟨z4, hz4, hF⟩ := swI hF
  refine cn_new (cells1 := 6) (slots1 := 23) h cf_X0 kl_X3_16 ins_X0 ini_X0 dX3_init_16 ht hz4 rfl rfl ⟨Nat.le_of_ble_eq_true rfl, Nat.le_of_ble_eq_true rfl⟩ ?_
  refine st_dup h rfl dX3_init_19 ?_
  obtain ⟨z5, hz5, hF⟩ := bI hF
  refine cn_callN (vs := []) (st := [.ref z3.2.1, .ref a0]) (host := "BasketCap") (cells1 := 7) (slots1 := 419) h (w_X0_init ht hz5) mi_X0_init mn_X0_init rfl (by decide +kernel) dX3_init_20 rfl ⟨Nat.le_of_ble_eq_true rfl, Nat.le_of_ble_eq_true rfl⟩ (Nat.le_of_ble_eq_true rfl) rfl rfl ⟨Nat.le_of_ble_eq_true rfl, Nat.le_of_ble_eq_true rfl⟩ rfl ?_
  obtain ⟨g2, hF⟩ := gI hF
  obtain ⟨z6, hz6, hF⟩ := swI hF
  refine cn_putr h 2 cf_X3 (by decide) fl_X3_19 (Or.inr ⟨rfl, hin, rfl⟩) (Or.inl ⟨_, rfl⟩) dX3_init_23 g2 hz6 ?_
  cases hF
  exact st_vret h hr dX3_init_26
def K_X11_init (z0 : CSt) (a0 : Nat) : Option CSt := (sw (mkc z0 (20, 500)) fun z1 => if (z1.1 a0).1 = 11 then ((sw (z1.1, z1.2.1, sr z1.2.2 a0 0 (some z0.2.1)) fun z2 => (sw (mkc z2 (6, 0)) fun z3 => ((K_X6_init z3 z2.2.1).bind fun z4 => if (z4.1 a0).1 = 11 then ((sw (z4.1, z4.2.1, sr z4.2.2 a0 1 (some z2.2.1)) fun z5 => (sw (mkc z5 (10, 0)) fun z6 => ((K_X10_init z6 z5.2.1).bind fun z7 => if (z7.1 a0).1 = 11 then ((sw (z7.1, z7.2.1, sr z7.2.2 a0 2 (some z5.2.1)) fun z8 => (sw (mkc z8 (0, 0)) fun z9 => ((K_X0_init z9 z8.2.1).bind fun z10 => if (z10.1 a0).1 = 11 then ((sw (z10.1, z10.2.1, sr z10.2.2 a0 3 (some z8.2.1)) fun z11 => (sw (mkc z11 (5, 0)) fun z12 => ((K_X5_init z12 z11.2.1).bind fun z13 => if (z13.1 a0).1 = 11 then ((sw (z13.1, z13.2.1, sr z13.2.2 a0 4 (some z11.2.1)) fun z14 => (sw (mkc z14 (23, 2)) fun z15 => if (z15.1 a0).1 = 11 then ((sw (z15.1, z15.2.1, sr z15.2.2 a0 5 (some z14.2.1)) fun z16 => (sw (mkc z16 (8, 0)) fun z17 => ((K_X8_init z17 z16.2.1).bind fun z18 => if (z18.1 a0).1 = 11 then ((sw (z18.1, z18.2.1, sr z18.2.2 a0 6 (some z16.2.1)) fun z19 => (sw (mkc z19 (2, 0)) fun z20 => if (z20.1 a0).1 = 11 then (((z20.2.2.2.2 a0 6).bind fun x1 => ((K_X2_init z20 z19.2.1 x1).bind fun z21 => if (z21.1 a0).1 = 11 then ((sw (z21.1, z21.2.1, sr z21.2.2 a0 7 (some z19.2.1)) fun z22 => (sw (mkc z22 (4, 0)) fun z23 => if (z23.1 a0).1 = 11 then (((z23.2.2.2.2 a0 6).bind fun x2 => ((K_X4_init z23 z22.2.1 x2).bind fun z24 => if (z24.1 a0).1 = 11 then ((sw (z24.1, z24.2.1, sr z24.2.2 a0 8 (some z22.2.1)) fun z25 => (sw (mkc z25 (1, 0)) fun z26 => ((K_X1_init z26 z25.2.1).bind fun z27 => if (z27.1 a0).1 = 11 then ((sw (z27.1, z27.2.1, sr z27.2.2 a0 9 (some z25.2.1)) fun z28 => (sw (mkc z28 (20, 11)) fun z29 => if (z29.1 a0).1 = 11 then ((sw (z29.1, z29.2.1, sr z29.2.2 a0 10 (some z28.2.1)) fun z30 => (sw (mkc z30 (9, 0)) fun z31 => ((K_X9_init z31 z30.2.1).bind fun z32 => if (z32.1 a0).1 = 11 then ((sw (z32.1, z32.2.1, sr z32.2.2 a0 11 (some z30.2.1)) fun z33 => (sw (mkc z33 (9, 0)) fun z34 => ((K_X9_init z34 z33.2.1).bind fun z35 => if (z35.1 a0).1 = 11 then ((sw (z35.1, z35.2.1, sr z35.2.2 a0 12 (some z33.2.1)) fun z36 => if (z36.1 a0).1 = 11 then (((z36.2.2.2.2 a0 5).bind fun x3 => (sw (mkc z36 (3, 0)) fun z37 => ((K_X3_init z37 z36.2.1).bind fun z38 => if z38.1 x3 = (23, 2) then (if z38.1 z36.2.1 = (3, 0) then ((sw (z38.1, z38.2.1, sr z38.2.2 x3 (ix 0) (some z36.2.1)) fun z39 => if (z39.1 a0).1 = 11 then (((z39.2.2.2.2 a0 5).bind fun x4 => (sw (mkc z39 (3, 0)) fun z40 => ((K_X3_init z40 z39.2.1).bind fun z41 => if z41.1 x4 = (23, 2) then (if z41.1 z39.2.1 = (3, 0) then ((sw (z41.1, z41.2.1, sr z41.2.2 x4 (ix 1) (some z39.2.1)) fun z42 => some z42)) else none) else none)))) else none)) else none) else none)))) else none)) else none)))) else none)))) else none))) else none)))) else none))) else none))) else none))) else none))) else none)))) else none))) else none)))) else none)))) else none)))) else none)))) else none)
set_option maxRecDepth 100000 in
set_option maxHeartbeats 4000000 in
theorem w_X11_init {l : Launch} {G : Gv} (ht : G.2.2.1.2 = 0) {z0 z : CSt} {a0 : Nat} (hF : K_X11_init z0 a0 = some z) : ConG l yX11_init cX11_init 2 none 3 133 3111 G z0.1 (z0.2.1, true) [.ref a0] z0.2.2 none z.1 (z.2.1, true) z.2.2 := by
  rw [K_X11_init] at hF
  refine Con_enter (own := RX11) 1 (lv := [some (.ref a0), none]) mi_X11_init.2.2.2 rfl (Nat.le_of_ble_eq_true rfl) rfl (fun h hr hin => ?_)
  refine st_aload_0 h dX11_init_0 ?_
  refine cn_obj h ml_X11_1 dX11_init_1 ⟨Nat.le_of_ble_eq_true rfl, Nat.le_of_ble_eq_true rfl⟩ (Nat.le_of_ble_eq_true rfl) ?_
  refine st_aload_0 h dX11_init_4 ?_
  refine st_sipush (v := 500) h dX11_init_5 (by decide) ?_
  obtain ⟨z1, hz1, hF⟩ := swI hF
  refine cn_newI (cells1 := 1) (slots1 := 500) h dX11_init_8 ht (by decide) (by decide) (by decide) hz1 rfl rfl ⟨Nat.le_of_ble_eq_true rfl, Nat.le_of_ble_eq_true rfl⟩ ?_
  obtain ⟨g1, hF⟩ := gI hF
  obtain ⟨z2, hz2, hF⟩ := swI hF
  refine cn_putr h 0 cf_X11 (by decide) fl_X11_9 (Or.inr ⟨rfl, hin, rfl⟩) (Or.inr ⟨_, rfl⟩) dX11_init_10 g1 hz2 ?_
  refine st_aload_0 h dX11_init_13 ?_
  obtain ⟨z3, hz3, hF⟩ := swI hF
  refine cn_new (cells1 := 2) (slots1 := 511) h cf_X6 kl_X11_13 ins_X6 ini_X6 dX11_init_14 ht hz3 rfl rfl ⟨Nat.le_of_ble_eq_true rfl, Nat.le_of_ble_eq_true rfl⟩ ?_
  refine st_dup h rfl dX11_init_17 ?_
  obtain ⟨z4, hz4, hF⟩ := bI hF
  refine cn_callN (vs := []) (st := [.ref z2.2.1, .ref a0]) (host := "BasketCap") (cells1 := 2) (slots1 := 511) h (w_X6_init ht hz4) mi_X6_init mn_X6_init rfl (by decide +kernel) dX11_init_18 rfl ⟨Nat.le_of_ble_eq_true rfl, Nat.le_of_ble_eq_true rfl⟩ (Nat.le_of_ble_eq_true rfl) rfl rfl ⟨Nat.le_of_ble_eq_true rfl, Nat.le_of_ble_eq_true rfl⟩ rfl ?_
  obtain ⟨g2, hF⟩ := gI hF
  obtain ⟨z5, hz5, hF⟩ := swI hF
  refine cn_putr h 1 cf_X11 (by decide) fl_X11_16 (Or.inr ⟨rfl, hin, rfl⟩) (Or.inl ⟨_, rfl⟩) dX11_init_21 g2 hz5 ?_
  refine st_aload_0 h dX11_init_24 ?_
  obtain ⟨z6, hz6, hF⟩ := swI hF
  refine cn_new (cells1 := 3) (slots1 := 517) h cf_X10 kl_X11_20 ins_X10 ini_X10 dX11_init_25 ht hz6 rfl rfl ⟨Nat.le_of_ble_eq_true rfl, Nat.le_of_ble_eq_true rfl⟩ ?_
  refine st_dup h rfl dX11_init_28 ?_
  obtain ⟨z7, hz7, hF⟩ := bI hF
  refine cn_callN (vs := []) (st := [.ref z5.2.1, .ref a0]) (host := "BasketCap") (cells1 := 7) (slots1 := 533) h (w_X10_init ht hz7) mi_X10_init mn_X10_init rfl (by decide +kernel) dX11_init_29 rfl ⟨Nat.le_of_ble_eq_true rfl, Nat.le_of_ble_eq_true rfl⟩ (Nat.le_of_ble_eq_true rfl) rfl rfl ⟨Nat.le_of_ble_eq_true rfl, Nat.le_of_ble_eq_true rfl⟩ rfl ?_
  obtain ⟨g3, hF⟩ := gI hF
  obtain ⟨z8, hz8, hF⟩ := swI hF
  refine cn_putr h 2 cf_X11 (by decide) fl_X11_23 (Or.inr ⟨rfl, hin, rfl⟩) (Or.inl ⟨_, rfl⟩) dX11_init_32 g3 hz8 ?_
  refine st_aload_0 h dX11_init_35 ?_
  obtain ⟨z9, hz9, hF⟩ := swI hF
  refine cn_new (cells1 := 8) (slots1 := 534) h cf_X0 kl_X11_27 ins_X0 ini_X0 dX11_init_36 ht hz9 rfl rfl ⟨Nat.le_of_ble_eq_true rfl, Nat.le_of_ble_eq_true rfl⟩ ?_
  refine st_dup h rfl dX11_init_39 ?_
  obtain ⟨z10, hz10, hF⟩ := bI hF
  refine cn_callN (vs := []) (st := [.ref z8.2.1, .ref a0]) (host := "BasketCap") (cells1 := 9) (slots1 := 930) h (w_X0_init ht hz10) mi_X0_init mn_X0_init rfl (by decide +kernel) dX11_init_40 rfl ⟨Nat.le_of_ble_eq_true rfl, Nat.le_of_ble_eq_true rfl⟩ (Nat.le_of_ble_eq_true rfl) rfl rfl ⟨Nat.le_of_ble_eq_true rfl, Nat.le_of_ble_eq_true rfl⟩ rfl ?_
  obtain ⟨g4, hF⟩ := gI hF
  obtain ⟨z11, hz11, hF⟩ := swI hF
  refine cn_putr h 3 cf_X11 (by decide) fl_X11_30 (Or.inr ⟨rfl, hin, rfl⟩) (Or.inl ⟨_, rfl⟩) dX11_init_43 g4 hz11 ?_
  refine st_aload_0 h dX11_init_46 ?_
  obtain ⟨z12, hz12, hF⟩ := swI hF
  refine cn_new (cells1 := 10) (slots1 := 933) h cf_X5 kl_X11_34 ins_X5 ini_X5 dX11_init_47 ht hz12 rfl rfl ⟨Nat.le_of_ble_eq_true rfl, Nat.le_of_ble_eq_true rfl⟩ ?_
  refine st_dup h rfl dX11_init_50 ?_
  obtain ⟨z13, hz13, hF⟩ := bI hF
  refine cn_callI (vs := []) (st := [.ref z11.2.1, .ref a0]) (cells1 := 61) (slots1 := 1163) h (w_X5_init ht hz13) mi_X5_init mn_X5_init rfl ml_X11_36 dX11_init_51 rfl ⟨Nat.le_of_ble_eq_true rfl, Nat.le_of_ble_eq_true rfl⟩ (Nat.le_of_ble_eq_true rfl) rfl rfl ⟨Nat.le_of_ble_eq_true rfl, Nat.le_of_ble_eq_true rfl⟩ rfl ?_
  obtain ⟨g5, hF⟩ := gI hF
  obtain ⟨z14, hz14, hF⟩ := swI hF
  refine cn_putr h 4 cf_X11 (by decide) fl_X11_37 (Or.inr ⟨rfl, hin, rfl⟩) (Or.inl ⟨_, rfl⟩) dX11_init_54 g5 hz14 ?_
  refine st_aload_0 h dX11_init_57 ?_
  refine st_ic_2 h dX11_init_58 ?_
  obtain ⟨z15, hz15, hF⟩ := swI hF
  refine cn_newM (cells1 := 62) (slots1 := 1165) h kl_X11_41 dX11_init_59 ht (by decide) (by decide) (by decide) hz15 rfl rfl ⟨Nat.le_of_ble_eq_true rfl, Nat.le_of_ble_eq_true rfl⟩ ?_
  obtain ⟨g6, hF⟩ := gI hF
  obtain ⟨z16, hz16, hF⟩ := swI hF
  refine cn_putr h 5 cf_X11 (by decide) fl_X11_43 (Or.inr ⟨rfl, hin, rfl⟩) (Or.inr ⟨_, rfl⟩) dX11_init_62 g6 hz16 ?_
  refine st_aload_0 h dX11_init_65 ?_
  obtain ⟨z17, hz17, hF⟩ := swI hF
  refine cn_new (cells1 := 63) (slots1 := 1180) h cf_X8 kl_X11_47 ins_X8 ini_X8 dX11_init_66 ht hz17 rfl rfl ⟨Nat.le_of_ble_eq_true rfl, Nat.le_of_ble_eq_true rfl⟩ ?_
  refine st_dup h rfl dX11_init_69 ?_
  obtain ⟨z18, hz18, hF⟩ := bI hF
  refine cn_callN (vs := []) (st := [.ref z16.2.1, .ref a0]) (host := "BasketCap") (cells1 := 74) (slots1 := 1482) h (w_X8_init ht hz18) mi_X8_init mn_X8_init rfl (by decide +kernel) dX11_init_70 rfl ⟨Nat.le_of_ble_eq_true rfl, Nat.le_of_ble_eq_true rfl⟩ (Nat.le_of_ble_eq_true rfl) rfl rfl ⟨Nat.le_of_ble_eq_true rfl, Nat.le_of_ble_eq_true rfl⟩ rfl ?_
  obtain ⟨g7, hF⟩ := gI hF
  obtain ⟨z19, hz19, hF⟩ := swI hF
  refine cn_putr h 6 cf_X11 (by decide) fl_X11_50 (Or.inr ⟨rfl, hin, rfl⟩) (Or.inl ⟨_, rfl⟩) dX11_init_73 g7 hz19 ?_
  refine st_aload_0 h dX11_init_76 ?_
  obtain ⟨z20, hz20, hF⟩ := swI hF
  refine cn_new (cells1 := 75) (slots1 := 1489) h cf_X2 kl_X11_54 ins_X2 ini_X2 dX11_init_77 ht hz20 rfl rfl ⟨Nat.le_of_ble_eq_true rfl, Nat.le_of_ble_eq_true rfl⟩ ?_
  refine st_dup h rfl dX11_init_80 ?_
  refine st_aload_0 h dX11_init_81 ?_
  obtain ⟨g8, hF⟩ := gI hF
  obtain ⟨x1, hx1, hF⟩ := bI hF
  refine cn_getr h 6 cf_X11 (by decide) fl_X11_50 (Or.inl ⟨_, rfl⟩) dX11_init_82 g8 hx1 ?_
  obtain ⟨z21, hz21, hF⟩ := bI hF
  refine cn_callI (vs := [.ref x1]) (st := [.ref z19.2.1, .ref a0]) (cells1 := 83) (slots1 := 1521) h (w_X2_init ht hz21) mi_X2_init mn_X2_init rfl ml_X11_56 dX11_init_85 rfl ⟨Nat.le_of_ble_eq_true rfl, Nat.le_of_ble_eq_true rfl⟩ (Nat.le_of_ble_eq_true rfl) rfl rfl ⟨Nat.le_of_ble_eq_true rfl, Nat.le_of_ble_eq_true rfl⟩ rfl ?_
  obtain ⟨g9, hF⟩ := gI hF
  obtain ⟨z22, hz22, hF⟩ := swI hF
  refine cn_putr h 7 cf_X11 (by decide) fl_X11_59 (Or.inr ⟨rfl, hin, rfl⟩) (Or.inl ⟨_, rfl⟩) dX11_init_88 g9 hz22 ?_
  refine st_aload_0 h dX11_init_91 ?_
  obtain ⟨z23, hz23, hF⟩ := swI hF
  refine cn_new (cells1 := 84) (slots1 := 1532) h cf_X4 kl_X11_63 ins_X4 ini_X4 dX11_init_92 ht hz23 rfl rfl ⟨Nat.le_of_ble_eq_true rfl, Nat.le_of_ble_eq_true rfl⟩ ?_
  refine st_dup h rfl dX11_init_95 ?_
  refine st_aload_0 h dX11_init_96 ?_
  obtain ⟨g10, hF⟩ := gI hF
  obtain ⟨x2, hx2, hF⟩ := bI hF
  refine cn_getr h 6 cf_X11 (by decide) fl_X11_50 (Or.inl ⟨_, rfl⟩) dX11_init_97 g10 hx2 ?_
  obtain ⟨z24, hz24, hF⟩ := bI hF
  refine cn_callI (vs := [.ref x2]) (st := [.ref z22.2.1, .ref a0]) (cells1 := 98) (slots1 := 1624) h (w_X4_init ht hz24) mi_X4_init mn_X4_init rfl ml_X11_65 dX11_init_100 rfl ⟨Nat.le_of_ble_eq_true rfl, Nat.le_of_ble_eq_true rfl⟩ (Nat.le_of_ble_eq_true rfl) rfl rfl ⟨Nat.le_of_ble_eq_true rfl, Nat.le_of_ble_eq_true rfl⟩ rfl ?_
  obtain ⟨g11, hF⟩ := gI hF
  obtain ⟨z25, hz25, hF⟩ := swI hF
  refine cn_putr h 8 cf_X11 (by decide) fl_X11_66 (Or.inr ⟨rfl, hin, rfl⟩) (Or.inl ⟨_, rfl⟩) dX11_init_103 g11 hz25 ?_
  refine st_aload_0 h dX11_init_106 ?_
  obtain ⟨z26, hz26, hF⟩ := swI hF
  refine cn_new (cells1 := 99) (slots1 := 1626) h cf_X1 kl_X11_70 ins_X1 ini_X1 dX11_init_107 ht hz26 rfl rfl ⟨Nat.le_of_ble_eq_true rfl, Nat.le_of_ble_eq_true rfl⟩ ?_
  refine st_dup h rfl dX11_init_110 ?_
  obtain ⟨z27, hz27, hF⟩ := bI hF
  refine cn_callN (vs := []) (st := [.ref z25.2.1, .ref a0]) (host := "BasketCap") (cells1 := 100) (slots1 := 1630) h (w_X1_init ht hz27) mi_X1_init mn_X1_init rfl (by decide +kernel) dX11_init_111 rfl ⟨Nat.le_of_ble_eq_true rfl, Nat.le_of_ble_eq_true rfl⟩ (Nat.le_of_ble_eq_true rfl) rfl rfl ⟨Nat.le_of_ble_eq_true rfl, Nat.le_of_ble_eq_true rfl⟩ rfl ?_
  obtain ⟨g12, hF⟩ := gI hF
  obtain ⟨z28, hz28, hF⟩ := swI hF
  refine cn_putr h 9 cf_X11 (by decide) fl_X11_73 (Or.inr ⟨rfl, hin, rfl⟩) (Or.inl ⟨_, rfl⟩) dX11_init_114 g12 hz28 ?_
  refine st_aload_0 h dX11_init_117 ?_
  refine st_bipush (v := 11) h dX11_init_118 (by decide) ?_
  obtain ⟨z29, hz29, hF⟩ := swI hF
  refine cn_newI (cells1 := 101) (slots1 := 1641) h dX11_init_120 ht (by decide) (by decide) (by decide) hz29 rfl rfl ⟨Nat.le_of_ble_eq_true rfl, Nat.le_of_ble_eq_true rfl⟩ ?_
  obtain ⟨g13, hF⟩ := gI hF
  obtain ⟨z30, hz30, hF⟩ := swI hF
  refine cn_putr h 10 cf_X11 (by decide) fl_X11_77 (Or.inr ⟨rfl, hin, rfl⟩) (Or.inr ⟨_, rfl⟩) dX11_init_122 g13 hz30 ?_
  refine st_aload_0 h dX11_init_125 ?_
  obtain ⟨z31, hz31, hF⟩ := swI hF
  refine cn_new (cells1 := 102) (slots1 := 1650) h cf_X9 kl_X11_80 ins_X9 ini_X9 dX11_init_126 ht hz31 rfl rfl ⟨Nat.le_of_ble_eq_true rfl, Nat.le_of_ble_eq_true rfl⟩ ?_
  refine st_dup h rfl dX11_init_129 ?_
  obtain ⟨z32, hz32, hF⟩ := bI hF
  refine cn_callN (vs := []) (st := [.ref z30.2.1, .ref a0]) (host := "BasketCap") (cells1 := 109) (slots1 := 1954) h (w_X9_init ht hz32) mi_X9_init mn_X9_init rfl (by decide +kernel) dX11_init_130 rfl ⟨Nat.le_of_ble_eq_true rfl, Nat.le_of_ble_eq_true rfl⟩ (Nat.le_of_ble_eq_true rfl) rfl rfl ⟨Nat.le_of_ble_eq_true rfl, Nat.le_of_ble_eq_true rfl⟩ rfl ?_
  obtain ⟨g14, hF⟩ := gI hF
  obtain ⟨z33, hz33, hF⟩ := swI hF
  refine cn_putr h 11 cf_X11 (by decide) fl_X11_83 (Or.inl rfl) (Or.inl ⟨_, rfl⟩) dX11_init_133 g14 hz33 ?_
  refine st_aload_0 h dX11_init_136 ?_
  obtain ⟨z34, hz34, hF⟩ := swI hF
  refine cn_new (cells1 := 110) (slots1 := 1963) h cf_X9 kl_X11_80 ins_X9 ini_X9 dX11_init_137 ht hz34 rfl rfl ⟨Nat.le_of_ble_eq_true rfl, Nat.le_of_ble_eq_true rfl⟩ ?_
  refine st_dup h rfl dX11_init_140 ?_
  obtain ⟨z35, hz35, hF⟩ := bI hF
  refine cn_callN (vs := []) (st := [.ref z33.2.1, .ref a0]) (host := "BasketCap") (cells1 := 117) (slots1 := 2267) h (w_X9_init ht hz35) mi_X9_init mn_X9_init rfl (by decide +kernel) dX11_init_141 rfl ⟨Nat.le_of_ble_eq_true rfl, Nat.le_of_ble_eq_true rfl⟩ (Nat.le_of_ble_eq_true rfl) rfl rfl ⟨Nat.le_of_ble_eq_true rfl, Nat.le_of_ble_eq_true rfl⟩ rfl ?_
  obtain ⟨g15, hF⟩ := gI hF
  obtain ⟨z36, hz36, hF⟩ := swI hF
  refine cn_putr h 12 cf_X11 (by decide) fl_X11_87 (Or.inl rfl) (Or.inl ⟨_, rfl⟩) dX11_init_144 g15 hz36 ?_
  refine st_ic_0 h dX11_init_147 ?_
  refine st_istore_1 h dX11_init_148 ?_
  refine st_iload_1 h dX11_init_149 ?_
  refine st_ic_2 h dX11_init_150 ?_
  refine st_icmp_ge (t := 173) h dX11_init_151 (by decide) (fun q => absurd q (by decide)) (fun _ => ?_)
  refine st_aload_0 h dX11_init_154 ?_
  obtain ⟨g16, hF⟩ := gI hF
  obtain ⟨x3, hx3, hF⟩ := bI hF
  refine cn_getr h 5 cf_X11 (by decide) fl_X11_43 (Or.inr ⟨_, rfl⟩) dX11_init_155 g16 hx3 ?_
  refine st_iload_1 h dX11_init_158 ?_
  obtain ⟨z37, hz37, hF⟩ := swI hF
  refine cn_new (cells1 := 118) (slots1 := 2270) h cf_X3 kl_X11_41 ins_X3 ini_X3 dX11_init_159 ht hz37 rfl rfl ⟨Nat.le_of_ble_eq_true rfl, Nat.le_of_ble_eq_true rfl⟩ ?_
  refine st_dup h rfl dX11_init_162 ?_
  obtain ⟨z38, hz38, hF⟩ := bI hF
  refine cn_callN (vs := []) (st := [.ref z36.2.1, .int 0, .ref x3]) (host := "BasketCap") (cells1 := 125) (slots1 := 2689) h (w_X3_init ht hz38) mi_X3_init mn_X3_init rfl (by decide +kernel) dX11_init_163 rfl ⟨Nat.le_of_ble_eq_true rfl, Nat.le_of_ble_eq_true rfl⟩ (Nat.le_of_ble_eq_true rfl) rfl rfl ⟨Nat.le_of_ble_eq_true rfl, Nat.le_of_ble_eq_true rfl⟩ rfl ?_
  obtain ⟨g17, hF⟩ := gI hF
  obtain ⟨g18, hF⟩ := gI hF
  obtain ⟨z39, hz39, hF⟩ := swI hF
  refine cn_aast (i := 0) (ci := 3) (t0 := 3) h dX11_init_166 g17 (Or.inl ⟨rfl, rfl⟩) rfl rfl (by decide) g18 (by decide) hz39 ?_
  refine st_iinc_1 (y := 1) h dX11_init_167 (by decide) ?_
  refine st_goto (t := 149) h dX11_init_170 (by decide) ?_
  refine st_iload_1 h dX11_init_149 ?_
  refine st_ic_2 h dX11_init_150 ?_
  refine st_icmp_ge (t := 173) h dX11_init_151 (by decide) (fun q => absurd q (by decide)) (fun _ => ?_)
  refine st_aload_0 h dX11_init_154 ?_
  obtain ⟨g19, hF⟩ := gI hF
  obtain ⟨x4, hx4, hF⟩ := bI hF
  refine cn_getr h 5 cf_X11 (by decide) fl_X11_43 (Or.inr ⟨_, rfl⟩) dX11_init_155 g19 hx4 ?_
  refine st_iload_1 h dX11_init_158 ?_
  obtain ⟨z40, hz40, hF⟩ := swI hF
  refine cn_new (cells1 := 126) (slots1 := 2692) h cf_X3 kl_X11_41 ins_X3 ini_X3 dX11_init_159 ht hz40 rfl rfl ⟨Nat.le_of_ble_eq_true rfl, Nat.le_of_ble_eq_true rfl⟩ ?_
  refine st_dup h rfl dX11_init_162 ?_
  obtain ⟨z41, hz41, hF⟩ := bI hF
  refine cn_callN (vs := []) (st := [.ref z39.2.1, .int 1, .ref x4]) (host := "BasketCap") (cells1 := 133) (slots1 := 3111) h (w_X3_init ht hz41) mi_X3_init mn_X3_init rfl (by decide +kernel) dX11_init_163 rfl ⟨Nat.le_of_ble_eq_true rfl, Nat.le_of_ble_eq_true rfl⟩ (Nat.le_of_ble_eq_true rfl) rfl rfl ⟨Nat.le_of_ble_eq_true rfl, Nat.le_of_ble_eq_true rfl⟩ rfl ?_
  obtain ⟨g20, hF⟩ := gI hF
  obtain ⟨g21, hF⟩ := gI hF
  obtain ⟨z42, hz42, hF⟩ := swI hF
  refine cn_aast (i := 1) (ci := 3) (t0 := 3) h dX11_init_166 g20 (Or.inl ⟨rfl, rfl⟩) rfl rfl (by decide) g21 (by decide) hz42 ?_
  refine st_iinc_1 (y := 2) h dX11_init_167 (by decide) ?_
  refine st_goto (t := 149) h dX11_init_170 (by decide) ?_
  refine st_iload_1 h dX11_init_149 ?_
  refine st_ic_2 h dX11_init_150 ?_
  refine st_icmp_ge (t := 173) h dX11_init_151 (by decide) (fun _ => ?_) (fun q => absurd (by decide) q)
  cases hF
  exact st_vret h hr dX11_init_173
def K_X12_init (z0 : CSt) (a0 : Nat) : Option CSt := if (z0.1 a0).1 = 12 then ((sw (z0.1, z0.2.1, si z0.2.2 a0 2 ((-1))) fun z1 => (sw (mkc z1 (20, 500)) fun z2 => if (z2.1 a0).1 = 12 then ((sw (z2.1, z2.2.1, sr z2.2.2 a0 3 (some z1.2.1)) fun z3 => (sw (mkc z3 (20, 534)) fun z4 => if (z4.1 a0).1 = 12 then ((sw (z4.1, z4.2.1, sr z4.2.2 a0 14 (some z3.2.1)) fun z5 => (sw (mkc z5 (20, 534)) fun z6 => if (z6.1 a0).1 = 12 then ((sw (z6.1, z6.2.1, sr z6.2.2 a0 15 (some z5.2.1)) fun z7 => (sw (mkc z7 (20, 534)) fun z8 => if (z8.1 a0).1 = 12 then ((sw (z8.1, z8.2.1, sr z8.2.2 a0 16 (some z7.2.1)) fun z9 => (sw (mkc z9 (20, 5340)) fun z10 => if (z10.1 a0).1 = 12 then ((sw (z10.1, z10.2.1, sr z10.2.2 a0 17 (some z9.2.1)) fun z11 => (sw (mkc z11 (20, 1068)) fun z12 => if (z12.1 a0).1 = 12 then ((sw (z12.1, z12.2.1, sr z12.2.2 a0 18 (some z11.2.1)) fun z13 => (sw (mkc z13 (21, 4)) fun z14 => if (z14.1 a0).1 = 12 then ((sw (z14.1, z14.2.1, sr z14.2.2 a0 19 (some z13.2.1)) fun z15 => (sw (mkc z15 (21, 8)) fun z16 => if (z16.1 a0).1 = 12 then ((sw (z16.1, z16.2.1, sr z16.2.2 a0 20 (some z15.2.1)) fun z17 => (sw (mkc z17 (22, 2)) fun z18 => if (z18.1 a0).1 = 12 then ((sw (z18.1, z18.2.1, sr z18.2.2 a0 21 (some z17.2.1)) fun z19 => (sw (mkc z19 (20, 16)) fun z20 => if (z20.1 a0).1 = 12 then ((sw (z20.1, z20.2.1, sr z20.2.2 a0 26 (some z19.2.1)) fun z21 => (sw (mkc z21 (20, 16)) fun z22 => if (z22.1 a0).1 = 12 then ((sw (z22.1, z22.2.1, sr z22.2.2 a0 27 (some z21.2.1)) fun z23 => (sw (mkc z23 (20, 84)) fun z24 => if (z24.1 a0).1 = 12 then ((sw (z24.1, z24.2.1, sr z24.2.2 a0 31 (some z23.2.1)) fun z25 => (sw (mkc z25 (20, 5)) fun z26 => if (z26.1 a0).1 = 12 then ((sw (z26.1, z26.2.1, sr z26.2.2 a0 32 (some z25.2.1)) fun z27 => (sw (mkc z27 (20, 4)) fun z28 => if (z28.1 a0).1 = 12 then ((sw (z28.1, z28.2.1, sr z28.2.2 a0 33 (some z27.2.1)) fun z29 => (sw (mkc z29 (20, 4)) fun z30 => if (z30.1 a0).1 = 12 then ((sw (z30.1, z30.2.1, sr z30.2.2 a0 34 (some z29.2.1)) fun z31 => (sw (mkc z31 (20, 4)) fun z32 => if (z32.1 a0).1 = 12 then ((sw (z32.1, z32.2.1, sr z32.2.2 a0 35 (some z31.2.1)) fun z33 => if (z33.1 a0).1 = 12 then ((sw (z33.1, z33.2.1, si z33.2.2 a0 38 ((-1))) fun z34 => (sw (mkc z34 (20, 4)) fun z35 => if (z35.1 a0).1 = 12 then ((sw (z35.1, z35.2.1, sr z35.2.2 a0 40 (some z34.2.1)) fun z36 => (sw (mkc z36 (20, 12)) fun z37 => if (z37.1 a0).1 = 12 then ((sw (z37.1, z37.2.1, sr z37.2.2 a0 45 (some z36.2.1)) fun z38 => some z38)) else none))) else none))) else none)) else none))) else none))) else none))) else none))) else none))) else none))) else none))) else none))) else none))) else none))) else none))) else none))) else none))) else none))) else none))) else none))) else none
set_option maxRecDepth 100000 in
set_option maxHeartbeats 4000000 in
theorem w_X12_init {l : Launch} {G : Gv} (ht : G.2.2.1.2 = 0) {z0 z : CSt} {a0 : Nat} (hF : K_X12_init z0 a0 = some z) : ConG l yX12_init cX12_init 1 none 1 18 8673 G z0.1 (z0.2.1, true) [.ref a0] z0.2.2 none z.1 (z.2.1, true) z.2.2 := by
  rw [K_X12_init] at hF
  refine Con_enter (own := RX12) 0 (lv := [some (.ref a0)]) mi_X12_init.2.2.2 rfl (Nat.le_of_ble_eq_true rfl) rfl (fun h hr hin => ?_)
  refine st_aload_0 h dX12_init_0 ?_
  refine cn_obj h ml_X12_3 dX12_init_1 ⟨Nat.le_of_ble_eq_true rfl, Nat.le_of_ble_eq_true rfl⟩ (Nat.le_of_ble_eq_true rfl) ?_
  refine st_aload_0 h dX12_init_4 ?_
  refine st_ic_m1 h dX12_init_5 ?_
  obtain ⟨g1, hF⟩ := gI hF
  obtain ⟨z1, hz1, hF⟩ := swI hF
  refine cn_puti h 2 cf_X12 (by decide) fl_X12_9 rfl rfl dX12_init_6 g1 hz1 ?_
  refine st_aload_0 h dX12_init_9 ?_
  refine st_sipush (v := 500) h dX12_init_10 (by decide) ?_
  obtain ⟨z2, hz2, hF⟩ := swI hF
  refine cn_newI (cells1 := 1) (slots1 := 500) h dX12_init_13 ht (by decide) (by decide) (by decide) hz2 rfl rfl ⟨Nat.le_of_ble_eq_true rfl, Nat.le_of_ble_eq_true rfl⟩ ?_
  obtain ⟨g2, hF⟩ := gI hF
  obtain ⟨z3, hz3, hF⟩ := swI hF
  refine cn_putr h 3 cf_X12 (by decide) fl_X12_13 (Or.inr ⟨rfl, hin, rfl⟩) (Or.inr ⟨_, rfl⟩) dX12_init_15 g2 hz3 ?_
  refine st_aload_0 h dX12_init_18 ?_
  refine st_sipush (v := 534) h dX12_init_19 (by decide) ?_
  obtain ⟨z4, hz4, hF⟩ := swI hF
  refine cn_newI (cells1 := 2) (slots1 := 1034) h dX12_init_22 ht (by decide) (by decide) (by decide) hz4 rfl rfl ⟨Nat.le_of_ble_eq_true rfl, Nat.le_of_ble_eq_true rfl⟩ ?_
  obtain ⟨g3, hF⟩ := gI hF
  obtain ⟨z5, hz5, hF⟩ := swI hF
  refine cn_putr h 14 cf_X12 (by decide) fl_X12_17 (Or.inr ⟨rfl, hin, rfl⟩) (Or.inr ⟨_, rfl⟩) dX12_init_24 g3 hz5 ?_
  refine st_aload_0 h dX12_init_27 ?_
  refine st_sipush (v := 534) h dX12_init_28 (by decide) ?_
  obtain ⟨z6, hz6, hF⟩ := swI hF
  refine cn_newI (cells1 := 3) (slots1 := 1568) h dX12_init_31 ht (by decide) (by decide) (by decide) hz6 rfl rfl ⟨Nat.le_of_ble_eq_true rfl, Nat.le_of_ble_eq_true rfl⟩ ?_
  obtain ⟨g4, hF⟩ := gI hF
  obtain ⟨z7, hz7, hF⟩ := swI hF
  refine cn_putr h 15 cf_X12 (by decide) fl_X12_20 (Or.inr ⟨rfl, hin, rfl⟩) (Or.inr ⟨_, rfl⟩) dX12_init_33 g4 hz7 ?_
  refine st_aload_0 h dX12_init_36 ?_
  refine st_sipush (v := 534) h dX12_init_37 (by decide) ?_
  obtain ⟨z8, hz8, hF⟩ := swI hF
  refine cn_newI (cells1 := 4) (slots1 := 2102) h dX12_init_40 ht (by decide) (by decide) (by decide) hz8 rfl rfl ⟨Nat.le_of_ble_eq_true rfl, Nat.le_of_ble_eq_true rfl⟩ ?_
  obtain ⟨g5, hF⟩ := gI hF
  obtain ⟨z9, hz9, hF⟩ := swI hF
  refine cn_putr h 16 cf_X12 (by decide) fl_X12_23 (Or.inr ⟨rfl, hin, rfl⟩) (Or.inr ⟨_, rfl⟩) dX12_init_42 g5 hz9 ?_
  refine st_aload_0 h dX12_init_45 ?_
  refine st_sipush (v := 5340) h dX12_init_46 (by decide) ?_
  obtain ⟨z10, hz10, hF⟩ := swI hF
  refine cn_newI (cells1 := 5) (slots1 := 7442) h dX12_init_49 ht (by decide) (by decide) (by decide) hz10 rfl rfl ⟨Nat.le_of_ble_eq_true rfl, Nat.le_of_ble_eq_true rfl⟩ ?_
  obtain ⟨g6, hF⟩ := gI hF
  obtain ⟨z11, hz11, hF⟩ := swI hF
  refine cn_putr h 17 cf_X12 (by decide) fl_X12_26 (Or.inr ⟨rfl, hin, rfl⟩) (Or.inr ⟨_, rfl⟩) dX12_init_51 g6 hz11 ?_
  refine st_aload_0 h dX12_init_54 ?_
  refine st_sipush (v := 1068) h dX12_init_55 (by decide) ?_
  obtain ⟨z12, hz12, hF⟩ := swI hF
  refine cn_newI (cells1 := 6) (slots1 := 8510) h dX12_init_58 ht (by decide) (by decide) (by decide) hz12 rfl rfl ⟨Nat.le_of_ble_eq_true rfl, Nat.le_of_ble_eq_true rfl⟩ ?_
  obtain ⟨g7, hF⟩ := gI hF
  obtain ⟨z13, hz13, hF⟩ := swI hF
  refine cn_putr h 18 cf_X12 (by decide) fl_X12_29 (Or.inr ⟨rfl, hin, rfl⟩) (Or.inr ⟨_, rfl⟩) dX12_init_60 g7 hz13 ?_
  refine st_aload_0 h dX12_init_63 ?_
  refine st_ic_4 h dX12_init_64 ?_
  obtain ⟨z14, hz14, hF⟩ := swI hF
  refine cn_newJ (cells1 := 7) (slots1 := 8514) h dX12_init_65 ht (by decide) (by decide) (by decide) hz14 rfl rfl ⟨Nat.le_of_ble_eq_true rfl, Nat.le_of_ble_eq_true rfl⟩ ?_
  obtain ⟨g8, hF⟩ := gI hF
  obtain ⟨z15, hz15, hF⟩ := swI hF
  refine cn_putr h 19 cf_X12 (by decide) fl_X12_32 (Or.inr ⟨rfl, hin, rfl⟩) (Or.inr ⟨_, rfl⟩) dX12_init_67 g8 hz15 ?_
  refine st_aload_0 h dX12_init_70 ?_
  refine st_bipush (v := 8) h dX12_init_71 (by decide) ?_
  obtain ⟨z16, hz16, hF⟩ := swI hF
  refine cn_newJ (cells1 := 8) (slots1 := 8522) h dX12_init_73 ht (by decide) (by decide) (by decide) hz16 rfl rfl ⟨Nat.le_of_ble_eq_true rfl, Nat.le_of_ble_eq_true rfl⟩ ?_
  obtain ⟨g9, hF⟩ := gI hF
  obtain ⟨z17, hz17, hF⟩ := swI hF
  refine cn_putr h 20 cf_X12 (by decide) fl_X12_36 (Or.inr ⟨rfl, hin, rfl⟩) (Or.inr ⟨_, rfl⟩) dX12_init_75 g9 hz17 ?_
  refine st_aload_0 h dX12_init_78 ?_
  refine st_ic_2 h dX12_init_79 ?_
  obtain ⟨z18, hz18, hF⟩ := swI hF
  refine cn_newZ (cells1 := 9) (slots1 := 8524) h dX12_init_80 ht (by decide) (by decide) (by decide) hz18 rfl rfl ⟨Nat.le_of_ble_eq_true rfl, Nat.le_of_ble_eq_true rfl⟩ ?_
  obtain ⟨g10, hF⟩ := gI hF
  obtain ⟨z19, hz19, hF⟩ := swI hF
  refine cn_putr h 21 cf_X12 (by decide) fl_X12_39 (Or.inr ⟨rfl, hin, rfl⟩) (Or.inr ⟨_, rfl⟩) dX12_init_82 g10 hz19 ?_
  refine st_aload_0 h dX12_init_85 ?_
  refine st_bipush (v := 16) h dX12_init_86 (by decide) ?_
  obtain ⟨z20, hz20, hF⟩ := swI hF
  refine cn_newI (cells1 := 10) (slots1 := 8540) h dX12_init_88 ht (by decide) (by decide) (by decide) hz20 rfl rfl ⟨Nat.le_of_ble_eq_true rfl, Nat.le_of_ble_eq_true rfl⟩ ?_
  obtain ⟨g11, hF⟩ := gI hF
  obtain ⟨z21, hz21, hF⟩ := swI hF
  refine cn_putr h 26 cf_X12 (by decide) fl_X12_43 (Or.inr ⟨rfl, hin, rfl⟩) (Or.inr ⟨_, rfl⟩) dX12_init_90 g11 hz21 ?_
  refine st_aload_0 h dX12_init_93 ?_
  refine st_bipush (v := 16) h dX12_init_94 (by decide) ?_
  obtain ⟨z22, hz22, hF⟩ := swI hF
  refine cn_newI (cells1 := 11) (slots1 := 8556) h dX12_init_96 ht (by decide) (by decide) (by decide) hz22 rfl rfl ⟨Nat.le_of_ble_eq_true rfl, Nat.le_of_ble_eq_true rfl⟩ ?_
  obtain ⟨g12, hF⟩ := gI hF
  obtain ⟨z23, hz23, hF⟩ := swI hF
  refine cn_putr h 27 cf_X12 (by decide) fl_X12_46 (Or.inr ⟨rfl, hin, rfl⟩) (Or.inr ⟨_, rfl⟩) dX12_init_98 g12 hz23 ?_
  refine st_aload_0 h dX12_init_101 ?_
  refine st_bipush (v := 84) h dX12_init_102 (by decide) ?_
  obtain ⟨z24, hz24, hF⟩ := swI hF
  refine cn_newI (cells1 := 12) (slots1 := 8640) h dX12_init_104 ht (by decide) (by decide) (by decide) hz24 rfl rfl ⟨Nat.le_of_ble_eq_true rfl, Nat.le_of_ble_eq_true rfl⟩ ?_
  obtain ⟨g13, hF⟩ := gI hF
  obtain ⟨z25, hz25, hF⟩ := swI hF
  refine cn_putr h 31 cf_X12 (by decide) fl_X12_49 (Or.inr ⟨rfl, hin, rfl⟩) (Or.inr ⟨_, rfl⟩) dX12_init_106 g13 hz25 ?_
  refine st_aload_0 h dX12_init_109 ?_
  refine st_ic_5 h dX12_init_110 ?_
  obtain ⟨z26, hz26, hF⟩ := swI hF
  refine cn_newI (cells1 := 13) (slots1 := 8645) h dX12_init_111 ht (by decide) (by decide) (by decide) hz26 rfl rfl ⟨Nat.le_of_ble_eq_true rfl, Nat.le_of_ble_eq_true rfl⟩ ?_
  obtain ⟨g14, hF⟩ := gI hF
  obtain ⟨z27, hz27, hF⟩ := swI hF
  refine cn_putr h 32 cf_X12 (by decide) fl_X12_52 (Or.inr ⟨rfl, hin, rfl⟩) (Or.inr ⟨_, rfl⟩) dX12_init_113 g14 hz27 ?_
  refine st_aload_0 h dX12_init_116 ?_
  refine st_ic_4 h dX12_init_117 ?_
  obtain ⟨z28, hz28, hF⟩ := swI hF
  refine cn_newI (cells1 := 14) (slots1 := 8649) h dX12_init_118 ht (by decide) (by decide) (by decide) hz28 rfl rfl ⟨Nat.le_of_ble_eq_true rfl, Nat.le_of_ble_eq_true rfl⟩ ?_
  obtain ⟨g15, hF⟩ := gI hF
  obtain ⟨z29, hz29, hF⟩ := swI hF
  refine cn_putr h 33 cf_X12 (by decide) fl_X12_55 (Or.inr ⟨rfl, hin, rfl⟩) (Or.inr ⟨_, rfl⟩) dX12_init_120 g15 hz29 ?_
  refine st_aload_0 h dX12_init_123 ?_
  refine st_ic_4 h dX12_init_124 ?_
  obtain ⟨z30, hz30, hF⟩ := swI hF
  refine cn_newI (cells1 := 15) (slots1 := 8653) h dX12_init_125 ht (by decide) (by decide) (by decide) hz30 rfl rfl ⟨Nat.le_of_ble_eq_true rfl, Nat.le_of_ble_eq_true rfl⟩ ?_
  obtain ⟨g16, hF⟩ := gI hF
  obtain ⟨z31, hz31, hF⟩ := swI hF
  refine cn_putr h 34 cf_X12 (by decide) fl_X12_58 (Or.inr ⟨rfl, hin, rfl⟩) (Or.inr ⟨_, rfl⟩) dX12_init_127 g16 hz31 ?_
  refine st_aload_0 h dX12_init_130 ?_
  refine st_ic_4 h dX12_init_131 ?_
  obtain ⟨z32, hz32, hF⟩ := swI hF
  refine cn_newI (cells1 := 16) (slots1 := 8657) h dX12_init_132 ht (by decide) (by decide) (by decide) hz32 rfl rfl ⟨Nat.le_of_ble_eq_true rfl, Nat.le_of_ble_eq_true rfl⟩ ?_
  obtain ⟨g17, hF⟩ := gI hF
  obtain ⟨z33, hz33, hF⟩ := swI hF
  refine cn_putr h 35 cf_X12 (by decide) fl_X12_61 (Or.inr ⟨rfl, hin, rfl⟩) (Or.inr ⟨_, rfl⟩) dX12_init_134 g17 hz33 ?_
  refine st_aload_0 h dX12_init_137 ?_
  refine st_ic_m1 h dX12_init_138 ?_
  obtain ⟨g18, hF⟩ := gI hF
  obtain ⟨z34, hz34, hF⟩ := swI hF
  refine cn_puti h 38 cf_X12 (by decide) fl_X12_64 rfl rfl dX12_init_139 g18 hz34 ?_
  refine st_aload_0 h dX12_init_142 ?_
  refine st_ic_4 h dX12_init_143 ?_
  obtain ⟨z35, hz35, hF⟩ := swI hF
  refine cn_newI (cells1 := 17) (slots1 := 8661) h dX12_init_144 ht (by decide) (by decide) (by decide) hz35 rfl rfl ⟨Nat.le_of_ble_eq_true rfl, Nat.le_of_ble_eq_true rfl⟩ ?_
  obtain ⟨g19, hF⟩ := gI hF
  obtain ⟨z36, hz36, hF⟩ := swI hF
  refine cn_putr h 40 cf_X12 (by decide) fl_X12_67 (Or.inr ⟨rfl, hin, rfl⟩) (Or.inr ⟨_, rfl⟩) dX12_init_146 g19 hz36 ?_
  refine st_aload_0 h dX12_init_149 ?_
  refine st_bipush (v := 12) h dX12_init_150 (by decide) ?_
  obtain ⟨z37, hz37, hF⟩ := swI hF
  refine cn_newI (cells1 := 18) (slots1 := 8673) h dX12_init_152 ht (by decide) (by decide) (by decide) hz37 rfl rfl ⟨Nat.le_of_ble_eq_true rfl, Nat.le_of_ble_eq_true rfl⟩ ?_
  obtain ⟨g20, hF⟩ := gI hF
  obtain ⟨z38, hz38, hF⟩ := swI hF
  refine cn_putr h 45 cf_X12 (by decide) fl_X12_70 (Or.inr ⟨rfl, hin, rfl⟩) (Or.inr ⟨_, rfl⟩) dX12_init_154 g20 hz38 ?_
  cases hF
  exact st_vret h hr dX12_init_157
