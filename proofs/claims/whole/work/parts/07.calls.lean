/-! CONTRACTS, ENTRY, RETURNS, CALLS -/
def Cw (G : Gv) (U : State) : Prop := va_K G.1 vwCl (tyl G) U ∧ Ex G U U.heap ∧ G.2.2.1.1 ≤ U.heap.size
def rmD (fr mc ms : Nat) : Room := { frames := fr, cells := mc, slots := ms, locals := 64 * fr }
def QcR (G : Gv) (sh : Shp) (ν : Cnt) (r : Option Value) (τ : Sto) : Array Value → State → Outcome → State → Prop := fun _ st oc t => oc = .returned (r.map (cv G)) ∧ Hd G sh ν τ t.heap ∧ va_F (gA G) st t
/-- y's contract: from the world (sh, ν, σ) with arguments vs it returns r, and the world is (sh', ν', τ) -/
def ConG (l : Launch) (y : MethodName) (cc : ByteArray) (nL : Nat) (ret : Option FieldType) (fr mc ms : Nat) (G : Gv) (sh : Shp) (ν : Cnt) (vs : List Value) (σ : Sto) (r : Option Value) (sh' : Shp) (ν' : Cnt) (τ : Sto) : Prop :=
  Met l y (.code y cc nL ret :: WS) (rmD fr mc ms) (va_Pc (vs.map (cv G)) (fun U => Cw G U ∧ Hd G sh ν σ U.heap)) (QcR G sh' ν' r τ) mc ms (gA G)
abbrev Con (l : Launch) (y : MethodName) (cc : ByteArray) (nL : Nat) (ret : Option FieldType) (fr : Nat) (G : Gv) (sh : Shp) (ν : Cnt) (vs : List Value) (σ : Sto) (r : Option Value) (τ : Sto) : Prop := ConG l y cc nL ret fr 0 0 G sh ν vs σ r sh ν τ
theorem Con_blind {G : Gv} {sh : Shp} {ν : Cnt} {σ : Sto} {vs : List Value} : FrameBlind (va_Pc vs (fun U => Cw G U ∧ Hd G sh ν σ U.heap)) := by
  intro a U g mk q
  obtain ⟨q0, ⟨qK, qE, qz⟩, qH⟩ := q
  exact ⟨q0, ⟨va_K.moved (u := U) (U := U.calling g mk a) (Vm.Alike.refl U.vm) qK, Ex.blind qE, qz⟩, qH⟩
/-- the locals at the entry -/
def lvI : List Value → List (Option Value)
  | [] => []
  | v :: r => if v.category = 2 then some v :: none :: lvI r else some v :: lvI r
theorem lvp_none {G : Gv} : ∀ {k i : Nat}, lvp G i (List.replicate k none) = []
  | 0, _ => rfl
  | k + 1, i => by rw [List.replicate_succ, lvp]; exact lvp_none
theorem lvI_in {G : Gv} {k : Nat} : ∀ {vs : List Value} {i : Nat} {q : Nat × Value}, q ∈ lvp G i (lvI vs ++ List.replicate k none) → q ∈ lv_args i (vs.map (cv G))
  | [], i, q, h => by
    rw [lvI, List.nil_append, lvp_none] at h
    cases h
  | v :: r, i, q, h => by
    rw [lvI] at h
    rw [List.map_cons, lv_args, cv_cat]
    by_cases hc : v.category = 2
    · rw [if_pos hc] at h ⊢
      rcases List.mem_cons.mp h with h | h
      · exact List.mem_cons.mpr (Or.inl h)
      · exact List.mem_cons_of_mem _ (lvI_in (i := i + 2) h)
    · rw [if_neg hc] at h ⊢
      rcases List.mem_cons.mp h with h | h
      · exact List.mem_cons.mpr (Or.inl h)
      · exact List.mem_cons_of_mem _ (lvI_in (i := i + 1) h)
theorem Con_enter {l : Launch} {y : MethodName} {cc : ByteArray} {nL : Nat} {ret : Option FieldType} {fr mc ms : Nat} {G : Gv} {sh sh' : Shp} {ν ν' : Cnt} {vs : List Value} {σ τ : Sto} {r : Option Value} {own : String} (k : Nat) {lv : List (Option Value)}
    (hy : plainName y.cls = true) (ho : y.cls = own) (hs : (lg_sl (vs.map (cv G))).length ≤ nL) (hlv : lvI vs ++ List.replicate k none = lv)
    (body : ∀ {p : Program} {e : Env} {s : State} {m : MethodId} {args : Array Value} {below : List Frame} {meth : Method} {c : Code}, Cx p s m args meth c G cc nL own → meth.sig.returnType = ret → meth.name = y.name → AW p l e (rmD fr mc ms) s m args below meth c (MQ below (QcR G sh' ν' r τ) args s mc ms (gA G)) 0 0 G nL 0 lv [] sh ν σ) :
    ConG l y cc nL ret fr mc ms G sh ν vs σ r sh' ν' τ := by
  refine Met.ofW (cc := cc) (maxL := nL) (ret := ret) hy rfl ?_
  intro p e s m args below meth c s₁ B hml hv
  obtain ⟨rfl, ⟨hK, hE, hz⟩, hH⟩ := hv
  have hts := atoms_spec (ws := .code y cc nL ret :: WS) B.pre
  have hown : s.vm.findClass own = some m.cls := by rw [← ho]; exact findClass_of_methodNamed B.named
  have hx : Cx p s m (vs.map (cv G)).toArray meth c G cc nL own := ⟨B.exec, B.bytes, hml, hown, fun w hw => hts w (List.mem_cons_of_mem _ hw), hK, hE, B.notSynchronized, hz⟩
  have hl := lv_entry (vs.map (cv G)) (n := nL) hs
  rw [lg_entry_eq]
  subst hlv
  exact body hx B.returns (name_of_methodNamed B.named B.method).1 s.heap [] _ hH va_S.rf ⟨hl.1, hl.2.1, fun q hq => hl.2.2 q (lvI_in hq)⟩
/-- fewer locals are known -/
def lsub : List (Option Value) → List (Option Value) → Prop
  | [], _ => True
  | none :: r, _ :: q => lsub r q
  | none :: r, [] => lsub r []
  | some v :: r, w :: q => some v = w ∧ lsub r q
  | some _ :: _, [] => False
theorem lsub_in {G : Gv} : ∀ {a b : List (Option Value)} {i : Nat} {q : Nat × Value}, lsub a b → q ∈ lvp G i a → q ∈ lvp G i b
  | [], _, _, _, _, h => by cases h
  | none :: r, [], i, q, hs, h => by
    have := lsub_in (a := r) (b := []) (i := i + 1) hs h
    cases this
  | none :: r, none :: b, i, q, hs, h => lsub_in (a := r) (b := b) (i := i + 1) hs h
  | none :: r, some v :: b, i, q, hs, h => List.mem_cons_of_mem _ (lsub_in (a := r) (b := b) (i := i + 1) hs h)
  | some v :: r, [], i, q, hs, h => by cases hs
  | some v :: r, w :: b, i, q, hs, h => by
    obtain ⟨e, hs⟩ := hs
    subst e
    rcases List.mem_cons.mp h with h | h
    · exact List.mem_cons.mpr (Or.inl h)
    · exact List.mem_cons_of_mem _ (lsub_in (a := r) (b := b) (i := i + 1) hs h)
/-- what the tables say of a method: its code, its class, how many arguments -/
def MI (y : MethodName) (bytes : ByteArray) (maxL : Nat) (ret : Option FieldType) (n : Nat) : Prop := Cond.initialized y.cls ∈ WS ∧ Cond.code y bytes maxL ret ∈ WS ∧ (y.cls ≠ "java/lang/invoke/MethodHandle" ∧ y.cls ≠ "java/lang/invoke/VarHandle" ∧ (parseMethodDescriptor y.desc).map (fun d => d.parameters.length) = some n) ∧ plainName y.cls = true
def MV (y : MethodName) (ci : Nat) : Prop := Cond.instanceMethod y ∈ WS ∧ Cond.selects y.cls y y ∈ WS ∧ ci < 13 ∧ ∃ (T : u_T) (N : Nat), vwCl[ci]? = some (y.cls, T, N)
theorem MI.good {y : MethodName} {bytes : ByteArray} {maxL : Nat} {ret : Option FieldType} {n : Nat} (h : MI y bytes maxL ret n) : GoodIn WS (.code y bytes maxL ret :: WS) :=
  ws_GoodIn (fun w hw => (List.mem_cons.mp hw).elim (fun e => by rw [e]; exact h.2.1) id)
section AWC
variable {p : Program} {l : Launch} {e : Env} {R : Room} {s : State} {m : MethodId} {args : Array Value} {below : List Frame} {meth : Method} {c : Code} {Q : State → Prop} {cells slots : Nat}
variable {G : Gv} {cc : ByteArray} {nL : Nat} {own : String} {pc : Nat} {lv lv' : List (Option Value)} {st : List Value} {sh sh' : Shp} {ν ν' : Cnt} {σ τ : Sto}
theorem st_sub (hs : lsub lv' lv) (k : AW p l e R s m args below meth c Q cells slots G nL pc lv' st sh ν σ) : AW p l e R s m args below meth c Q cells slots G nL pc lv st sh ν σ :=
  fun H locs ls hH hS hl => k H locs ls hH hS ⟨hl.1, hl.2.1, fun q hq => hl.2.2 q (lsub_in hs hq)⟩
theorem Cx.on (h : Cx p s m args meth c G cc nL own) {H : Heap} {locs : List Loc} {U : State} (hS : va_S (gA G) s.heap H locs) (hU : U.heap = H) (hW : s.WarmedH U.vm) : Cw G U :=
  ⟨va_K.moved hW.alike h.k, h.ex.on hS hU hW, by rw [hU]; exact Nat.le_trans h.z hS.1⟩
/-! returns -/
theorem st_iret (h : Cx p s m args meth c G cc nL own) {v : Int32} (hr : meth.sig.returnType = some .int) (d : decode cc pc = .ok (.ireturn, 1)) : AW p l e R s m args below meth c (MQ below (QcR G sh ν (some (.int v)) σ) args s cells slots (gA G)) cells slots G nL pc lv [.int v] sh ν σ :=
  fun H locs ls hH hS hl => W.iret (v := v) h.x h.b hr (fun t ht hW => ⟨rfl, by rw [ht]; exact hH, hS.F ht⟩) hS.2.2 d h.lk
theorem st_zret (h : Cx p s m args meth c G cc nL own) {v : Int32} (hr : meth.sig.returnType = some .boolean) (hv : v = 0 ∨ v = 1) (d : decode cc pc = .ok (.ireturn, 1)) : AW p l e R s m args below meth c (MQ below (QcR G sh ν (some (.int v)) σ) args s cells slots (gA G)) cells slots G nL pc lv [.int v] sh ν σ :=
  fun H locs ls hH hS hl => W.zret (v := v) h.x h.b hr (by rcases hv with rfl | rfl <;> rfl) (fun t ht hW => ⟨rfl, by rw [ht]; exact hH, hS.F ht⟩) hS.2.2 d h.lk
theorem st_lret (h : Cx p s m args meth c G cc nL own) {v : Int64} (hr : meth.sig.returnType = some .long) (d : decode cc pc = .ok (.lreturn, 1)) : AW p l e R s m args below meth c (MQ below (QcR G sh ν (some (.long v)) σ) args s cells slots (gA G)) cells slots G nL pc lv [.long v] sh ν σ :=
  fun H locs ls hH hS hl => W.lret (v := v) h.x h.b hr (fun t ht hW => ⟨rfl, by rw [ht]; exact hH, hS.F ht⟩) hS.2.2 d h.lk
theorem st_vret (h : Cx p s m args meth c G cc nL own) (hr : meth.sig.returnType = none) (d : decode cc pc = .ok (.return_, 1)) : AW p l e R s m args below meth c (MQ below (QcR G sh ν none σ) args s cells slots (gA G)) cells slots G nL pc lv [] sh ν σ :=
  fun H locs ls hH hS hl => W.vret h.x h.b hr (fun t ht hW => ⟨rfl, by rw [ht]; exact hH, hS.F ht⟩) hS.2.2 d h.lk
theorem st_aret (h : Cx p s m args meth c G cc nL own) {v : Nat} {C : String} (hr : meth.sig.returnType = some (.object C)) (d : decode cc pc = .ok (.areturn, 1)) : AW p l e R s m args below meth c (MQ below (QcR G sh ν (some (.ref v)) σ) args s cells slots (gA G)) cells slots G nL pc lv [.ref v] sh ν σ :=
  fun H locs ls hH hS hl => W.aret (v := cv G (.ref v)) h.x h.b hr (Or.inl ⟨_, rfl⟩) (Or.inr ⟨_, rfl⟩) (fun t ht hW => ⟨rfl, by rw [ht]; exact hH, hS.F ht⟩) hS.2.2 d h.lk
theorem st_tret (h : Cx p s m args meth c G cc nL own) {v : Nat} {C : String} (hr : meth.sig.returnType = some (.object C)) (d : decode cc pc = .ok (.areturn, 1)) : AW p l e R s m args below meth c (MQ below (QcR G sh ν (some (.retAddr v)) σ) args s cells slots (gA G)) cells slots G nL pc lv [.retAddr v] sh ν σ :=
  fun H locs ls hH hS hl => W.aret (v := cv G (.retAddr v)) h.x h.b hr (Or.inl ⟨_, rfl⟩) (Or.inr ⟨_, rfl⟩) (fun t ht hW => ⟨rfl, by rw [ht]; exact hH, hS.F ht⟩) hS.2.2 d h.lk
/-! calls -/
theorem call_k {H : Heap} {locs : List Loc} {ls : Array Slot} {stk rest : List Value} {a : Array Value} {mc ms : Nat} {r : Option Value} {st' : List Value} (hrun : va_Run p l e R s m args below meth c H locs cells slots mc ms (F0 m pc ls stk) rest (QcR G sh' ν' r τ a) (gA G)) (hS : va_S (gA G) s.heap H locs) (hl : lh G ls nL lv) (he : (r.map (cv G)).toList ++ rest = st'.map (cv G))
    (k : AW p l e R s m args below meth c Q (cells + mc) (slots + ms) G nL (pc + 3) lv st' sh' ν' τ) : W p l e R s m args below meth c H locs cells slots Q (F0 m pc ls stk) := by
  intro T hT X
  obtain ⟨v, st₀, t, T', L, h0, X', hL, e1, e2, ⟨hv, hH, hz, hk⟩, st⟩ := hrun T hT X
  have hv : v = r.map (cv G) := Outcome.returned.inj hv
  subst hv
  rw [h0] at hz hk
  obtain ⟨t2, a1, b1⟩ := k T'.heap (locs ++ L) ls (by rw [e1]; exact hH) ⟨Nat.le_trans hS.1 (by rw [e1]; exact hz), fun q h1 h2 => by rw [e1, hk q (Nat.lt_of_lt_of_le h1 hS.1) h2]; exact hS.2.1 q h1 h2, fun q hq => by
      rcases List.mem_append.mp hq with h | h
      · exact hS.2.2 q h
      · exact hL q h⟩ hl T' rfl X'
  refine ⟨t2, st t2 ?_, b1⟩
  rw [he]
  exact a1
theorem st_callV (h : Cx p s m args meth c G cc nL own) {y : MethodName} {bytes : ByteArray} {maxL fr n ci z index a mc ms : Nat} {ret : Option FieldType} {vs stk st' : List Value} {r : Option Value} (hM : ConG l y bytes maxL ret fr mc ms G sh ν (.ref a :: vs) σ r sh' ν' τ) (hi : MI y bytes maxL ret n) (hi2 : MV y ci) (hl : Cond.methodLink own index y ∈ WS) (d : decode cc pc = .ok (.invokevirtual index, 3)) (ha : sh a = (ci, z)) (hn : vs.length = n) (hR : fr + 1 ≤ R.frames ∧ 8 + (maxL + 11) + 64 * fr ≤ R.locals) (hst : (st.map fun v => v.category).sum ≤ 8) (hc : cells + mc ≤ R.cells ∧ slots + ms ≤ R.slots) (hs : stk = vs.reverse ++ .ref a :: st) (hs' : st' = r.toList ++ st)
    (k : AW p l e R s m args below meth c Q (cells + mc) (slots + ms) G nL (pc + 3) lv st' sh' ν' τ) : AW p l e R s m args below meth c Q cells slots G nL pc lv stk sh ν σ := by
  intro H locs ls hH hS hl'
  subst hs
  obtain ⟨i1, i2, i3, i4⟩ := id hi
  obtain ⟨j1, j2, j3, T, N, j4⟩ := hi2
  have he : (wl G sh ν.1 σ)[a]? = some (G.2.2.1.1 + a, .inr (ci, fl G.2.2.1.1 (σ.1 a) (σ.2.1 a) (σ.2.2 a) ci)) := by rw [wl_at (hH.lt ha (by omega)), ce_at ha, cer_o j3]
  refine call_k (a := (Value.ref (G.2.2.1.1 + a) :: vs.map (cv G)).toArray) (rest := st.map (cv G)) (va_runV (C := y.cls) (b := G.2.2.1.1 + a) (As := vs.map (cv G)) (rest := st.map (cv G)) (n := n) (g := F0 m pc ls ((vs.reverse ++ Value.ref a :: st).map (cv G))) (bytes := bytes) (maxL := maxL) (ret := ret) ⟨h.x, h.b, h.ml, h.o, h.t⟩ hM ⟨callB_of n h.t hi.good rfl rfl rfl (h.t _ i1) (h.t _ hl) i3 hR, h.t _ j1, h.t _ j2⟩ ⟨Con_blind, va_recv h.k hH.1 j4 he, fun U hU hW => ⟨rfl, h.on hS hU hW, by rw [hU]; exact hH⟩⟩ rfl (by rw [List.length_map]; exact hn) hl'.1 ?_ ?_ d hc) hS hl' ?_ k
  · simp [List.map_append, List.map_reverse, cv]
  · show 2 * 0 + _ ≤ 8
    rw [cat_sum]
    omega
  · rw [hs']
    cases r <;> rfl
theorem st_callS (h : Cx p s m args meth c G cc nL own) {y : MethodName} {bytes : ByteArray} {maxL fr n index mc ms : Nat} {ret : Option FieldType} {vs stk st' : List Value} {r : Option Value} (hM : ConG l y bytes maxL ret fr mc ms G sh ν vs σ r sh' ν' τ) (hi : MI y bytes maxL ret n) (hi2 : Cond.static y ∈ WS) (hl : Cond.methodLink own index y ∈ WS) (d : decode cc pc = .ok (.invokestatic index, 3)) (hn : vs.length = n) (hR : fr + 1 ≤ R.frames ∧ 8 + (maxL + 11) + 64 * fr ≤ R.locals) (hst : (st.map fun v => v.category).sum ≤ 8) (hc : cells + mc ≤ R.cells ∧ slots + ms ≤ R.slots) (hs : stk = vs.reverse ++ st) (hs' : st' = r.toList ++ st)
    (k : AW p l e R s m args below meth c Q (cells + mc) (slots + ms) G nL (pc + 3) lv st' sh' ν' τ) : AW p l e R s m args below meth c Q cells slots G nL pc lv stk sh ν σ := by
  intro H locs ls hH hS hl'
  subst hs
  obtain ⟨i1, i2, i3, i4⟩ := id hi
  refine call_k (a := (vs.map (cv G)).toArray) (rest := st.map (cv G)) (va_runS (As := vs.map (cv G)) (rest := st.map (cv G)) (n := n) (g := F0 m pc ls ((vs.reverse ++ st).map (cv G))) (bytes := bytes) (maxL := maxL) (ret := ret) ⟨h.x, h.b, h.ml, h.o, h.t⟩ hM ⟨callB_of n h.t hi.good rfl rfl rfl (h.t _ i1) (h.t _ hl) i3 hR, h.t _ hi2⟩ ⟨Con_blind, fun U hU hW => ⟨rfl, h.on hS hU hW, by rw [hU]; exact hH⟩⟩ rfl (by rw [List.length_map]; exact hn) hl'.1 ?_ ?_ d hc) hS hl' ?_ k
  · simp [List.map_append, List.map_reverse]
  · show 2 * 0 + _ ≤ 8
    rw [cat_sum]
    omega
  · rw [hs']
    cases r <;> rfl
/-! calls of methods that make no cell, by their answers -/
theorem st_cVi (h : Cx p s m args meth c G cc nL own) {y : MethodName} {bytes : ByteArray} {maxL fr n ci z index a : Nat} {ret : Option FieldType} {vs stk : List Value} {v : Int32} (hM : Con l y bytes maxL ret fr G sh ν (.ref a :: vs) σ (some (.int v)) τ) (hi : MI y bytes maxL ret n) (hi2 : MV y ci) (hl : Cond.methodLink own index y ∈ WS) (d : decode cc pc = .ok (.invokevirtual index, 3)) (ha : sh a = (ci, z)) (hn : vs.length = n) (hR : fr + 1 ≤ R.frames ∧ 8 + (maxL + 11) + 64 * fr ≤ R.locals) (hst : (st.map fun v => v.category).sum ≤ 8) (hs : stk = vs.reverse ++ .ref a :: st) (k : AW p l e R s m args below meth c Q 0 0 G nL (pc + 3) lv (.int v :: st) sh ν τ) : AW p l e R s m args below meth c Q 0 0 G nL pc lv stk sh ν σ :=
  st_callV h hM hi hi2 hl d ha hn hR hst ⟨Nat.zero_le _, Nat.zero_le _⟩ hs rfl k
theorem st_cVl (h : Cx p s m args meth c G cc nL own) {y : MethodName} {bytes : ByteArray} {maxL fr n ci z index a : Nat} {ret : Option FieldType} {vs stk : List Value} {v : Int64} (hM : Con l y bytes maxL ret fr G sh ν (.ref a :: vs) σ (some (.long v)) τ) (hi : MI y bytes maxL ret n) (hi2 : MV y ci) (hl : Cond.methodLink own index y ∈ WS) (d : decode cc pc = .ok (.invokevirtual index, 3)) (ha : sh a = (ci, z)) (hn : vs.length = n) (hR : fr + 1 ≤ R.frames ∧ 8 + (maxL + 11) + 64 * fr ≤ R.locals) (hst : (st.map fun v => v.category).sum ≤ 8) (hs : stk = vs.reverse ++ .ref a :: st) (k : AW p l e R s m args below meth c Q 0 0 G nL (pc + 3) lv (.long v :: st) sh ν τ) : AW p l e R s m args below meth c Q 0 0 G nL pc lv stk sh ν σ :=
  st_callV h hM hi hi2 hl d ha hn hR hst ⟨Nat.zero_le _, Nat.zero_le _⟩ hs rfl k
theorem st_cVr (h : Cx p s m args meth c G cc nL own) {y : MethodName} {bytes : ByteArray} {maxL fr n ci z index a : Nat} {ret : Option FieldType} {vs stk : List Value} {v : Nat} (hM : Con l y bytes maxL ret fr G sh ν (.ref a :: vs) σ (some (.ref v)) τ) (hi : MI y bytes maxL ret n) (hi2 : MV y ci) (hl : Cond.methodLink own index y ∈ WS) (d : decode cc pc = .ok (.invokevirtual index, 3)) (ha : sh a = (ci, z)) (hn : vs.length = n) (hR : fr + 1 ≤ R.frames ∧ 8 + (maxL + 11) + 64 * fr ≤ R.locals) (hst : (st.map fun v => v.category).sum ≤ 8) (hs : stk = vs.reverse ++ .ref a :: st) (k : AW p l e R s m args below meth c Q 0 0 G nL (pc + 3) lv (.ref v :: st) sh ν τ) : AW p l e R s m args below meth c Q 0 0 G nL pc lv stk sh ν σ :=
  st_callV h hM hi hi2 hl d ha hn hR hst ⟨Nat.zero_le _, Nat.zero_le _⟩ hs rfl k
theorem st_cVv (h : Cx p s m args meth c G cc nL own) {y : MethodName} {bytes : ByteArray} {maxL fr n ci z index a : Nat} {ret : Option FieldType} {vs stk : List Value} (hM : Con l y bytes maxL ret fr G sh ν (.ref a :: vs) σ none τ) (hi : MI y bytes maxL ret n) (hi2 : MV y ci) (hl : Cond.methodLink own index y ∈ WS) (d : decode cc pc = .ok (.invokevirtual index, 3)) (ha : sh a = (ci, z)) (hn : vs.length = n) (hR : fr + 1 ≤ R.frames ∧ 8 + (maxL + 11) + 64 * fr ≤ R.locals) (hst : (st.map fun v => v.category).sum ≤ 8) (hs : stk = vs.reverse ++ .ref a :: st) (k : AW p l e R s m args below meth c Q 0 0 G nL (pc + 3) lv st sh ν τ) : AW p l e R s m args below meth c Q 0 0 G nL pc lv stk sh ν σ :=
  st_callV h hM hi hi2 hl d ha hn hR hst ⟨Nat.zero_le _, Nat.zero_le _⟩ hs rfl k
theorem st_cSi (h : Cx p s m args meth c G cc nL own) {y : MethodName} {bytes : ByteArray} {maxL fr n index : Nat} {ret : Option FieldType} {vs stk : List Value} {v : Int32} (hM : Con l y bytes maxL ret fr G sh ν vs σ (some (.int v)) τ) (hi : MI y bytes maxL ret n) (hi2 : Cond.static y ∈ WS) (hl : Cond.methodLink own index y ∈ WS) (d : decode cc pc = .ok (.invokestatic index, 3)) (hn : vs.length = n) (hR : fr + 1 ≤ R.frames ∧ 8 + (maxL + 11) + 64 * fr ≤ R.locals) (hst : (st.map fun v => v.category).sum ≤ 8) (hs : stk = vs.reverse ++ st) (k : AW p l e R s m args below meth c Q 0 0 G nL (pc + 3) lv (.int v :: st) sh ν τ) : AW p l e R s m args below meth c Q 0 0 G nL pc lv stk sh ν σ :=
  st_callS h hM hi hi2 hl d hn hR hst ⟨Nat.zero_le _, Nat.zero_le _⟩ hs rfl k
theorem st_cSl (h : Cx p s m args meth c G cc nL own) {y : MethodName} {bytes : ByteArray} {maxL fr n index : Nat} {ret : Option FieldType} {vs stk : List Value} {v : Int64} (hM : Con l y bytes maxL ret fr G sh ν vs σ (some (.long v)) τ) (hi : MI y bytes maxL ret n) (hi2 : Cond.static y ∈ WS) (hl : Cond.methodLink own index y ∈ WS) (d : decode cc pc = .ok (.invokestatic index, 3)) (hn : vs.length = n) (hR : fr + 1 ≤ R.frames ∧ 8 + (maxL + 11) + 64 * fr ≤ R.locals) (hst : (st.map fun v => v.category).sum ≤ 8) (hs : stk = vs.reverse ++ st) (k : AW p l e R s m args below meth c Q 0 0 G nL (pc + 3) lv (.long v :: st) sh ν τ) : AW p l e R s m args below meth c Q 0 0 G nL pc lv stk sh ν σ :=
  st_callS h hM hi hi2 hl d hn hR hst ⟨Nat.zero_le _, Nat.zero_le _⟩ hs rfl k
theorem st_cSt (h : Cx p s m args meth c G cc nL own) {y : MethodName} {bytes : ByteArray} {maxL fr n index : Nat} {ret : Option FieldType} {vs stk : List Value} {v : Nat} (hM : Con l y bytes maxL ret fr G sh ν vs σ (some (.retAddr v)) τ) (hi : MI y bytes maxL ret n) (hi2 : Cond.static y ∈ WS) (hl : Cond.methodLink own index y ∈ WS) (d : decode cc pc = .ok (.invokestatic index, 3)) (hn : vs.length = n) (hR : fr + 1 ≤ R.frames ∧ 8 + (maxL + 11) + 64 * fr ≤ R.locals) (hst : (st.map fun v => v.category).sum ≤ 8) (hs : stk = vs.reverse ++ st) (k : AW p l e R s m args below meth c Q 0 0 G nL (pc + 3) lv (.retAddr v :: st) sh ν τ) : AW p l e R s m args below meth c Q 0 0 G nL pc lv stk sh ν σ :=
  st_callS h hM hi hi2 hl d hn hR hst ⟨Nat.zero_le _, Nat.zero_le _⟩ hs rfl k
theorem ls_e {q : List (Option Value)} : lsub [] q := trivial
theorem ls_n {r q : List (Option Value)} {x : Option Value} (k : lsub r q) : lsub (none :: r) (x :: q) := k
theorem ls_s {r q : List (Option Value)} {v : Value} (k : lsub r q) : lsub (some v :: r) (some v :: q) := ⟨rfl, k⟩
end AWC
/-! the answers' words: what a run of the functions says, step by step -/
def sw {α β : Type} (x : β) (f : β → Option α) : Option α := f x
theorem swI {α β : Type} {x : β} {f : β → Option α} {z : α} (h : sw x f = some z) : ∃ y, x = y ∧ f y = some z := ⟨x, rfl, h⟩
theorem gI {α : Type} {c : Prop} [Decidable c] {x : Option α} {z : α} (h : (if c then x else none) = some z) : c ∧ x = some z := by
  by_cases q : c
  · rw [if_pos q] at h; exact ⟨q, h⟩
  · rw [if_neg q] at h; cases h
theorem pI {α : Type} {c : Prop} [Decidable c] {x y : Option α} {z : α} (q : c) (h : (if c then x else y) = some z) : x = some z := (if_pos q).symm.trans h
theorem qI {α : Type} {c : Prop} [Decidable c] {x y : Option α} {z : α} (q : ¬ c) (h : (if c then x else y) = some z) : y = some z := (if_neg q).symm.trans h
theorem bI {α β : Type} {o : Option β} {f : β → Option α} {z : α} (h : o.bind f = some z) : ∃ x, o = some x ∧ f x = some z := by
  cases o with
  | none => cases h
  | some x => exact ⟨x, rfl, h⟩
abbrev ix (i : Int32) : Nat := i.toNatClampNeg
abbrev ib (i : Int32) (n : Nat) : Prop := ¬ (i < 0 ∨ n ≤ i.toNatClampNeg)
theorem tab_out {x : Int32} {lo : Int} {n : Nat} (h : ∀ j : Nat, j < n → ¬ x.toInt = lo + j) : x.toInt < lo ∨ lo + (n : Int) - 1 < x.toInt := by
  rcases Int.lt_or_le x.toInt lo with q | q
  · exact Or.inl q
  · refine Or.inr ?_
    rcases Int.lt_or_le (lo + (n : Int) - 1) x.toInt with r | r
    · exact r
    · exact absurd (by omega) (h (x.toInt - lo).toNat (by omega))
def FU : Nat := 6000
