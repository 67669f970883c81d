/-! FIELDS, ARRAYS, NEW CELLS, CALLS, RETURNS -/
/-- what a class's table gives -/
def CF (ci : Nat) (C : String) (T : u_T) (N : Nat) : Prop := vwCl[ci]? = some (C, T, N) ∧ NF ci = N ∧ ci < 13 ∧ (∀ w ∈ u_ws C T N, w ∈ WS) ∧ (∀ k, k < N → parseFieldDescriptor (T k).2.2.1 = some (TY ci k)) ∧ (∀ a, a < N → ∀ b, b < N → a ≠ b → (T a).2.1 ≠ (T b).2.1)
theorem fv_congr {b : Nat} {I I' : Nat → Int32} {J J' : Nat → Int64} {K K' : Nat → Option Nat} {k : Nat} {ty : FieldType} (h1 : I' k = I k) (h2 : J' k = J k) (h3 : K' k = K k) : fv b I' J' K' k ty = fv b I J K k ty := by
  unfold fv; rw [h1, h2, h3]
theorem Hd.lt {G : Gv} {sh : Shp} {ν : Cnt} {σ : Sto} {H : Heap} (h : Hd G sh ν σ H) {a ci z : Nat} (ha : sh a = (ci, z)) (hc : ci ≠ 99) : a < ν.1 := h.2.1 a (by rw [ha]; exact hc)
theorem Hd.upd {G : Gv} {sh : Shp} {ν : Cnt} {σ τ : Sto} {H H1 : Heap} (h : Hd G sh ν σ H) {a : Nat} (ha : a < ν.1) (he : va_at G.1 vwCl (G.2.2.1.1 + a, ce G sh τ a) H1) (ho : ∀ b, b ≠ a → ce G sh τ b = ce G sh σ b) (z : H1.size = H.size) (oq : ∀ q : Nat, q ≠ G.2.2.1.1 + a → H1[q]? = H[q]?) : Hd G sh ν τ H1 := by
  have h1 := h.1.set (wl_D h.2.2.2.2) (wl_at ha) he oq
  rw [wl_set rfl ha ho] at h1
  exact ⟨h1, h.2.1, by rw [z]; exact h.2.2.1, fun q => by rw [z]; exact h.2.2.2.1 q, h.2.2.2.2⟩
theorem Hd.nex {G : Gv} {sh : Shp} {ν : Cnt} {σ τ : Sto} {H H1 : Heap} (h : Hd G sh ν σ H) (hν : ν.2 = false) (hP : va_P G.1 vwCl (wl G sh ν.1 τ) H1) (z : H.size ≤ H1.size) : Hd G sh ν τ H1 :=
  ⟨hP, h.2.1, Nat.le_trans h.2.2.1 z, (fun q => by rw [hν] at q; cases q), h.2.2.2.2⟩
theorem Hd.A {G : Gv} {sh : Shp} {ν : Cnt} {σ : Sto} {H : Heap} (h : Hd G sh ν σ H) {a : Nat} (ha : a < ν.1) : gA G (G.2.2.1.1 + a) :=
  ⟨Nat.le_add_right _ _, h.2.2.2.2.elim Or.inl (fun q => Or.inr (by omega))⟩
theorem va_S_tr {A : Nat → Prop} {H0 H H1 : Heap} {l1 l2 : List Loc} (h : va_S A H0 H l1) (h2 : va_S A H H1 l2) : va_S A H0 H1 l2 :=
  ⟨Nat.le_trans h.1 h2.1, fun q a b => (h2.2.1 q (Nat.lt_of_lt_of_le a h.1) b).trans (h.2.1 q a b), h2.2.2⟩
theorem va_S_self {A : Nat → Prop} {H0 H : Heap} {l1 : List Loc} (h : va_S A H0 H l1) : va_S A H H l1 := ⟨Nat.le_refl _, fun _ _ _ => rfl, h.2.2⟩
section AWH
variable {p : Program} {l : Launch} {e : Env} {R : Room} {s : State} {m : MethodId} {args : Array Value} {below : List Frame} {meth : Method} {c : Code} {Q : State → Prop} {cells slots : Nat}
variable {G : Gv} {cc : ByteArray} {nL : Nat} {own : String} {pc : Nat} {lv : List (Option Value)} {st : List Value} {sh : Shp} {ν : Cnt} {σ : Sto}
theorem hg_get (h : Cx p s m args meth c G cc nL own) {C : String} {T : u_T} {N ci index a z : Nat} (k : Nat) (hf : CF ci C T N) (hk : k < N) (hl : Cond.fieldLink own index (T k).1 (T k).2.1 (T k).2.2.1 ∈ WS) {v : Value} (hv : fv G.2.2.1.1 (σ.1 a) (σ.2.1 a) (σ.2.2 a) k (TY ci k) = cv G v) (d : decode cc pc = .ok (.getfield index, 3)) (ha : sh a = (ci, z)) (kk : AW p l e R s m args below meth c Q cells slots G nL (pc + 3) lv (v :: st) sh ν σ) : AW p l e R s m args below meth c Q cells slots G nL pc lv (.ref a :: st) sh ν σ := by
  intro H locs ls hH hS hl'
  have hci := hf.2.2.1
  have hlt : a < ν.1 := hH.lt ha (by omega)
  refine va_get (D := G.1) (ci := ci) (v := cv G v) (C := C) (T := T) (N := N) (Ts := WS) h.x h.b h.t hf.2.2.2.1 h.o h.k hH.1 a (fs := fl G.2.2.1.1 (σ.1 a) (σ.2.1 a) (σ.2.2 a) ci) ?_ hf.1 k hk (h.t _ hl) (fun _ h9 => h9) ?_ d (kk H locs ls hH hS hl')
  · rw [wl_at hlt, ce_at ha, cer_o hci]
  · rw [fl_at (by rw [hf.2.1]; exact hk), hv]
theorem hg_putc (h : Cx p s m args meth c G cc nL own) {C : String} {T : u_T} {N ci index a z : Nat} (k : Nat) (hf : CF ci C T N) (hk : k < N) (hl : Cond.fieldLink own index (T k).1 (T k).2.1 (T k).2.2.1 ∈ WS) (hfin : (T k).2.2.2 = false ∨ ((T k).2.2.2 = true ∧ meth.name = "<init>" ∧ (T k).1 = own)) {v : Value} (hn : narrow (TY ci k) (cv G v) = cv G v) (hfit : fits (TY ci k) (cv G v) = true) {τ : Sto} (hv : fv G.2.2.1.1 (τ.1 a) (τ.2.1 a) (τ.2.2 a) k (TY ci k) = cv G v) (hv2 : ∀ j, j ≠ k → fv G.2.2.1.1 (τ.1 a) (τ.2.1 a) (τ.2.2 a) j (TY ci j) = fv G.2.2.1.1 (σ.1 a) (σ.2.1 a) (σ.2.2 a) j (TY ci j)) (hoth : ∀ b, b ≠ a → ce G sh τ b = ce G sh σ b)
    (d : decode cc pc = .ok (.putfield index, 3)) (ha : sh a = (ci, z)) (kk : AW p l e R s m args below meth c Q cells slots G nL (pc + 3) lv st sh ν τ) : AW p l e R s m args below meth c Q cells slots G nL pc lv (v :: .ref a :: st) sh ν σ := by
  intro H locs ls hH hS hl'
  obtain ⟨hc, hN, hci, hin, hty, hnm⟩ := hf
  have hlt : a < ν.1 := hH.lt ha (by omega)
  have hts := h.t
  have hK := h.k
  have hap := va_apart (own := own) hts hin (fun k => TY ci k) hty hnm hK hc
  have he : (wl G sh ν.1 σ)[a]? = some (G.2.2.1.1 + a, .inr (ci, fl G.2.2.1.1 (σ.1 a) (σ.2.1 a) (σ.2.2 a) ci)) := by rw [wl_at hlt, ce_at ha, cer_o hci]
  obtain ⟨r, h1, cell, q1, q2, q3, q4⟩ := hH.1 a _ he
  have hr : r = (C, T, N) := Option.some.inj (h1.symm.trans hc)
  subst hr
  obtain ⟨hSl, hfc, kC, hkC, hkind⟩ := hK.1 ci _ hc
  obtain ⟨cf, kf, fi, f, hi, hsl⟩ := hSl k hk
  have hlay := hts _ (hin _ (u_in_lay hk))
  have hst := (u_facts hfc hkC (u_lays hts hin hk) hi).1
  have key : ∀ (H' : Heap) (lc : List Loc), H'[G.2.2.1.1 + a]? = some (cell.setSlot f.slot (cv G v)) → H'.size = H.size → (∀ q, q ≠ G.2.2.1.1 + a → H'[q]? = H[q]?) → va_S (gA G) s.heap H' lc → W p l e R s m args below meth c H' lc cells slots Q (F0 m (pc + 3) ls (st.map (cv G))) := by
    intro H' lc e1 e2 e3 hS'
    refine kk H' lc ls (hH.upd hlt ?_ hoth e2 e3) hS' hl'
    rw [ce_at ha, cer_o hci]
    refine ⟨_, hc, ?_⟩
    rw [hsl] at e1
    refine t_OB.to (V := updV (vp_V (fl G.2.2.1.1 (σ.1 a) (σ.2.1 a) (σ.2.2 a) ci)) k (cv G v)) ⟨_, e1, q2, q3, t_set q4 hap hk (cv G v)⟩ (fun j hj => ?_)
    have hj' : j < NF ci := by rw [hN]; exact hj
    by_cases hjk : j = k
    · subst hjk
      simp [updV, vp_V, fl_at hj', hv]
    · simp [updV, vp_V, fl_at hj', hv2 j hjk, hjk]
  rcases hfin with hfin | ⟨hfin, hin2, hdecl⟩
  · unfold u_lay at hlay
    rw [if_neg (by rw [hfin]; decide)] at hlay
    have h6 := u_store hfc hkC hkind hlay hi (hty k hk) hn hfit
    refine W.putK h.x h.b (f := f) ⟨h.o, h.t _ hl, ⟨_, _, _, hi⟩, hst⟩ (by rw [q2]; exact h6) q1 q3 (by rw [hsl]; exact k2_hasslot (q4 k hk)) rfl rfl d fun H' e1 e2 e3 => key H' _ e1 e2 e3 (hS.put e2 e3 (hH.A hlt))
  · unfold u_lay at hlay
    rw [if_pos hfin] at hlay
    have hcf : m.cls = cf := by
      obtain ⟨_, _, c', _, _, _, -, -, hf', -, -, -, hown2, -⟩ := Cond.laysFinal_spec hlay
      have e1 : c' = cf := by have := hi.symm.trans hf'; simp at this; exact this.1.symm
      rw [hdecl] at hown2
      rw [← e1]; exact Option.some.inj (h.o.symm.trans hown2)
    have h6 := u_fits hfc hkC hkind (Or.inr hlay) hi (hty k hk) hn hfit
    refine W.putFinK h.x h.b h.o (h.t _ hl) hi hst hcf hin2 (by rw [q2]; exact h6) q1 q3 (by rw [hsl]; exact k2_hasslot (q4 k hk)) rfl rfl d fun H' e1 e2 e3 => key H' _ e1 e2 e3 (hS.put e2 e3 (hH.A hlt))
theorem hg_puti (h : Cx p s m args meth c G cc nL own) {C : String} {T : u_T} {N ci index a z : Nat} (k : Nat) (hf : CF ci C T N) (hk : k < N) (hl : Cond.fieldLink own index (T k).1 (T k).2.1 (T k).2.2.1 ∈ WS) (hfin : (T k).2.2.2 = false) {x : Int32} (hty : TY ci k = .int) (d : decode cc pc = .ok (.putfield index, 3)) (ha : sh a = (ci, z)) (kk : AW p l e R s m args below meth c Q cells slots G nL (pc + 3) lv st sh ν (si σ a k x)) : AW p l e R s m args below meth c Q cells slots G nL pc lv (.int x :: .ref a :: st) sh ν σ :=
  hg_putc h k hf hk hl (Or.inl hfin) (v := .int x) (τ := si σ a k x) (by rw [hty]; rfl) (by rw [hty]; rfl) (by rw [hty]; simp [fv, si, u2, cv]) (fun j hj => fv_congr (by simp [si, u2, hj]) rfl rfl) (fun b hb => ce_eq (u2_off hb) rfl rfl) d ha kk
theorem hg_putz (h : Cx p s m args meth c G cc nL own) {C : String} {T : u_T} {N ci index a z : Nat} (k : Nat) (hf : CF ci C T N) (hk : k < N) (hl : Cond.fieldLink own index (T k).1 (T k).2.1 (T k).2.2.1 ∈ WS) (hfin : (T k).2.2.2 = false) {x : Int32} (hty : TY ci k = .boolean) (d : decode cc pc = .ok (.putfield index, 3)) (ha : sh a = (ci, z)) (hx : x = 0 ∨ x = 1) (kk : AW p l e R s m args below meth c Q cells slots G nL (pc + 3) lv st sh ν (si σ a k x)) : AW p l e R s m args below meth c Q cells slots G nL pc lv (.int x :: .ref a :: st) sh ν σ :=
  hg_putc h k hf hk hl (Or.inl hfin) (v := .int x) (τ := si σ a k x) (by rw [hty]; rcases hx with rfl | rfl <;> rfl) (by rw [hty]; rcases hx with rfl | rfl <;> rfl) (by rw [hty]; simp [fv, si, u2, cv]) (fun j hj => fv_congr (by simp [si, u2, hj]) rfl rfl) (fun b hb => ce_eq (u2_off hb) rfl rfl) d ha kk
theorem hg_putj (h : Cx p s m args meth c G cc nL own) {C : String} {T : u_T} {N ci index a z : Nat} (k : Nat) (hf : CF ci C T N) (hk : k < N) (hl : Cond.fieldLink own index (T k).1 (T k).2.1 (T k).2.2.1 ∈ WS) (hfin : (T k).2.2.2 = false) {x : Int64} (hty : TY ci k = .long) (d : decode cc pc = .ok (.putfield index, 3)) (ha : sh a = (ci, z)) (kk : AW p l e R s m args below meth c Q cells slots G nL (pc + 3) lv st sh ν (sj σ a k x)) : AW p l e R s m args below meth c Q cells slots G nL pc lv (.long x :: .ref a :: st) sh ν σ :=
  hg_putc h k hf hk hl (Or.inl hfin) (v := .long x) (τ := sj σ a k x) (by rw [hty]; rfl) (by rw [hty]; rfl) (by rw [hty]; simp [fv, sj, u2, cv]) (fun j hj => fv_congr rfl (by simp [sj, u2, hj]) rfl) (fun b hb => ce_eq rfl (u2_off hb) rfl) d ha kk
theorem hg_putr (h : Cx p s m args meth c G cc nL own) {C : String} {T : u_T} {N ci index a z : Nat} (k : Nat) (hf : CF ci C T N) (hk : k < N) (hl : Cond.fieldLink own index (T k).1 (T k).2.1 (T k).2.2.1 ∈ WS) (hfin : (T k).2.2.2 = false ∨ ((T k).2.2.2 = true ∧ meth.name = "<init>" ∧ (T k).1 = own)) {x : Nat} (hty : (∃ n, TY ci k = .object n) ∨ ∃ t, TY ci k = .array t) (d : decode cc pc = .ok (.putfield index, 3)) (ha : sh a = (ci, z)) (kk : AW p l e R s m args below meth c Q cells slots G nL (pc + 3) lv st sh ν (sr σ a k (some x))) : AW p l e R s m args below meth c Q cells slots G nL pc lv (.ref x :: .ref a :: st) sh ν σ :=
  hg_putc h k hf hk hl hfin (v := .ref x) (τ := sr σ a k (some x)) (by rcases hty with ⟨n, e⟩ | ⟨n, e⟩ <;> rw [e] <;> rfl) (by rcases hty with ⟨n, e⟩ | ⟨n, e⟩ <;> rw [e] <;> rfl) (by rcases hty with ⟨n, e⟩ | ⟨n, e⟩ <;> rw [e] <;> simp [fv, sr, u2, cv, va_rf]) (fun j hj => fv_congr rfl rfl (by simp [sr, u2, hj])) (fun b hb => ce_eq rfl rfl (u2_off hb)) d ha kk
/-! arrays -/
theorem st_iaload (h : Cx p s m args meth c G cc nL own) {a n : Nat} {i : Int32} (d : decode cc pc = .ok (.iaload, 1)) (ha : sh a = (20, n)) (hi : vp_in i n) (kk : AW p l e R s m args below meth c Q cells slots G nL (pc + 1) lv (.int (σ.1 a i.toNatClampNeg) :: st) sh ν σ) : AW p l e R s m args below meth c Q cells slots G nL pc lv (.int i :: .ref a :: st) sh ν σ :=
  fun H locs ls hH hS hl => va_iald h.x h.b h.k hH.1 a 0 (cA := G.2.1 0) (n := n) (f := σ.1 a) (by rw [wl_at (hH.lt ha (by decide)), ce_at ha, cer_i]) rfl hi d (kk H locs ls hH hS hl)
theorem st_baload (h : Cx p s m args meth c G cc nL own) {a n : Nat} {i : Int32} (d : decode cc pc = .ok (.baload, 1)) (ha : sh a = (22, n)) (hi : vp_in i n) (kk : AW p l e R s m args below meth c Q cells slots G nL (pc + 1) lv (.int (σ.1 a i.toNatClampNeg) :: st) sh ν σ) : AW p l e R s m args below meth c Q cells slots G nL pc lv (.int i :: .ref a :: st) sh ν σ :=
  fun H locs ls hH hS hl => va_zald h.x h.b h.k hH.1 a 2 (cA := G.2.1 2) (n := n) (f := σ.1 a) (by rw [wl_at (hH.lt ha (by decide)), ce_at ha, cer_z]) rfl hi d (kk H locs ls hH hS hl)
theorem st_laload (h : Cx p s m args meth c G cc nL own) {a n : Nat} {i : Int32} (d : decode cc pc = .ok (.laload, 1)) (ha : sh a = (21, n)) (hi : vp_in i n) (kk : AW p l e R s m args below meth c Q cells slots G nL (pc + 1) lv (.long (σ.2.1 a i.toNatClampNeg) :: st) sh ν σ) : AW p l e R s m args below meth c Q cells slots G nL pc lv (.int i :: .ref a :: st) sh ν σ :=
  fun H locs ls hH hS hl => va_lald h.x h.b h.k hH.1 a 1 (cA := G.2.1 1) (n := n) (f := σ.2.1 a) (by rw [wl_at (hH.lt ha (by decide)), ce_at ha, cer_j]) rfl hi d (kk H locs ls hH hS hl)
theorem st_aaloadM (h : Cx p s m args meth c G cc nL own) {a n b : Nat} {i : Int32} (d : decode cc pc = .ok (.aaload, 1)) (ha : sh a = (23, n)) (hi : vp_in i n) (hr : σ.2.2 a i.toNatClampNeg = some b) (kk : AW p l e R s m args below meth c Q cells slots G nL (pc + 1) lv (.ref b :: st) sh ν σ) : AW p l e R s m args below meth c Q cells slots G nL pc lv (.int i :: .ref a :: st) sh ν σ :=
  fun H locs ls hH hS hl => va_aldq h.x h.b h.k hH.1 a 3 (cA := G.2.1 3) (C := "BasketCap$Image") (n := n) (f := fun j => (σ.2.2 a j).map (fun x => G.2.2.1.1 + x)) (by rw [wl_at (hH.lt ha (by decide)), ce_at ha, cer_m]) rfl hi d (by rw [hr]; exact kk H locs ls hH hS hl)
theorem st_aaloadY (h : Cx p s m args meth c G cc nL own) {a n b : Nat} {i : Int32} (d : decode cc pc = .ok (.aaload, 1)) (ha : sh a = (24, n)) (hi : vp_in i n) (hr : σ.2.2 a i.toNatClampNeg = some b) (kk : AW p l e R s m args below meth c Q cells slots G nL (pc + 1) lv (.ref b :: st) sh ν σ) : AW p l e R s m args below meth c Q cells slots G nL pc lv (.int i :: .ref a :: st) sh ν σ :=
  fun H locs ls hH hS hl => va_aldq h.x h.b h.k hH.1 a 4 (cA := G.2.1 4) (C := "BasketCap$Year") (n := n) (f := fun j => (σ.2.2 a j).map (fun x => G.2.2.1.1 + x)) (by rw [wl_at (hH.lt ha (by decide)), ce_at ha, cer_y]) rfl hi d (by rw [hr]; exact kk H locs ls hH hS hl)
theorem wl_iset {n a z : Nat} {f : Nat → Int32} (ha : sh a = (20, z)) (hn : a < n) : (wl G sh n σ).set a (G.2.2.1.1 + a, .inl (G.2.1 0, z, .inl f)) = wl G sh n (sI σ a f) :=
  wl_set (τ := sI σ a f) (by rw [ce_at ha, cer_i]; simp [sI]) hn (fun b hb => ce_eq (by simp [sI, hb]) rfl rfl)
theorem si_sI (a k : Nat) (x : Int32) : si σ a k x = sI σ a (upd (σ.1 a) k x) := by
  refine Prod.ext ?_ rfl
  funext b j
  by_cases hb : b = a
  · subst hb; simp [si, sI, u2, upd]
  · simp [si, sI, u2, hb]
theorem st_iastore (h : Cx p s m args meth c G cc nL own) {a n : Nat} {i x : Int32} (d : decode cc pc = .ok (.iastore, 1)) (ha : sh a = (20, n)) (hi : vp_in i n) (hν : ν.2 = false) (kk : AW p l e R s m args below meth c Q cells slots G nL (pc + 1) lv st sh ν (si σ a i.toNatClampNeg x)) : AW p l e R s m args below meth c Q cells slots G nL pc lv (.int x :: .int i :: .ref a :: st) sh ν σ := by
  intro H locs ls hH hS hl
  have hlt := hH.lt ha (by decide)
  refine va_iast h.x h.b h.k hH.1 (wl_D hH.2.2.2.2) (va_S_self hS) a 0 (cA := G.2.1 0) (n := n) (f := σ.1 a) (by rw [wl_at hlt, ce_at ha, cer_i]) rfl hi d (fun H1 locs1 hP hD hS1 => ?_)
  rw [wl_iset ha hlt, ← si_sI] at hP
  exact kk H1 locs1 ls (hH.nex hν hP hS1.1) (va_S_tr hS hS1) hl
theorem st_lastore (h : Cx p s m args meth c G cc nL own) {a n : Nat} {i : Int32} {x : Int64} (d : decode cc pc = .ok (.lastore, 1)) (ha : sh a = (21, n)) (hi : vp_in i n) (hν : ν.2 = false) (kk : AW p l e R s m args below meth c Q cells slots G nL (pc + 1) lv st sh ν (sj σ a i.toNatClampNeg x)) : AW p l e R s m args below meth c Q cells slots G nL pc lv (.long x :: .int i :: .ref a :: st) sh ν σ := by
  intro H locs ls hH hS hl
  have hlt := hH.lt ha (by decide)
  refine va_last h.x h.b h.k hH.1 (wl_D hH.2.2.2.2) (va_S_self hS) a 1 (cA := G.2.1 1) (n := n) (f := σ.2.1 a) (by rw [wl_at hlt, ce_at ha, cer_j]) rfl hi d (fun H1 locs1 hP hD hS1 => ?_)
  rw [wl_set (σ := σ) (τ := sj σ a i.toNatClampNeg x) (by rw [ce_at ha, cer_j]; simp [sj, u2_row]; rfl) hlt (fun b hb => ce_eq rfl (u2_off hb) rfl)] at hP
  exact kk H1 locs1 ls (hH.nex hν hP hS1.1) (va_S_tr hS hS1) hl
theorem st_bastore (h : Cx p s m args meth c G cc nL own) {a n : Nat} {i x : Int32} (d : decode cc pc = .ok (.bastore, 1)) (ha : sh a = (22, n)) (hi : vp_in i n) (hx : x = 0 ∨ x = 1) (hν : ν.2 = false) (kk : AW p l e R s m args below meth c Q cells slots G nL (pc + 1) lv st sh ν (si σ a i.toNatClampNeg x)) : AW p l e R s m args below meth c Q cells slots G nL pc lv (.int x :: .int i :: .ref a :: st) sh ν σ := by
  intro H locs ls hH hS hl
  have hlt := hH.lt ha (by decide)
  have hn : vp_nar .boolean x = x := by rcases hx with rfl | rfl <;> rfl
  refine va_zast h.x h.b h.k hH.1 (wl_D hH.2.2.2.2) (va_S_self hS) a 2 (cA := G.2.1 2) (n := n) (f := σ.1 a) (by rw [wl_at hlt, ce_at ha, cer_z]) rfl hi d (fun H1 locs1 hP hD hS1 => ?_)
  rw [hn, wl_set (σ := σ) (τ := si σ a i.toNatClampNeg x) (by rw [ce_at ha, cer_z]; simp [si, u2_row]; rfl) hlt (fun b hb => ce_eq (u2_off hb) rfl rfl)] at hP
  exact kk H1 locs1 ls (hH.nex hν hP hS1.1) (va_S_tr hS hS1) hl
theorem cpy_room : ((([] : List Value).map fun v => v.category).sum + (nativeFrameWords "java/lang/System" "arraycopy" 5 + 11)) ≤ 40 := by decide +kernel
theorem st_copy (h : Cx p s m args meth c G cc nL own) {index a0 a n0 n1 : Nat} {sp dp n : Int32} (hl : Cond.methodLink own index arraycopyName ∈ WS) (hl1 : Cond.native arraycopyName ∈ WS) (hl2 : Cond.static arraycopyName ∈ WS) (hl3 : Cond.initialized "java/lang/System" ∈ WS) (d : decode cc pc = .ok (.invokestatic index, 3)) (ha0 : sh a0 = (20, n0)) (ha : sh a = (20, n1)) (h1 : ¬ sp < 0) (h2 : ¬ dp < 0) (h3 : ¬ n < 0) (h4 : sp.toNatClampNeg + n.toNatClampNeg ≤ n0) (h5 : dp.toNatClampNeg + n.toNatClampNeg ≤ n1)
    (hR : 1 ≤ R.frames ∧ 40 ≤ R.locals) (hst : st = []) (hν : ν.2 = false) (kk : AW p l e R s m args below meth c Q cells slots G nL (pc + 3) lv st sh ν (sI σ a (va_cpy (σ.1 a0) (σ.1 a) sp.toNatClampNeg dp.toNatClampNeg n.toNatClampNeg))) : AW p l e R s m args below meth c Q cells slots G nL pc lv (.int n :: .int dp :: .ref a :: .int sp :: .ref a0 :: st) sh ν σ := by
  intro H locs ls hH hS hl'
  subst hst
  have hlt0 := hH.lt ha0 (by decide)
  have hlt := hH.lt ha (by decide)
  refine va_copyi h.x h.b (h.ml.trans hl'.1.symm) h.o (h.t _ hl) (h.t _ hl1) (h.t _ hl2) (h.t _ hl3) h.k hH.1 (wl_D hH.2.2.2.2) (va_S_self hS) a0 a 0 0 (c0 := G.2.1 0) (c1 := G.2.1 0) (n0 := n0) (n1 := n1) (f := σ.1 a0) (g := σ.1 a) (ty := .int) (by rw [wl_at hlt0, ce_at ha0, cer_i]) (by rw [wl_at hlt, ce_at ha, cer_i]) rfl rfl rfl h1 h2 h3 h4 h5 (fun _ _ => rfl) hR.1 (Nat.le_trans cpy_room hR.2) d (fun H1 locs1 hP hD hS1 => ?_)
  rw [wl_iset ha hlt] at hP
  exact kk H1 locs1 ls (hH.nex hν hP hS1.1) (va_S_tr hS hS1) hl'
theorem cat_sum (G : Gv) (st : List Value) : ((st.map (cv G)).map fun v => v.category).sum = (st.map fun v => v.category).sum := by
  rw [List.map_map]
  congr 1
  exact List.map_congr_left (fun v _ => cv_cat G v)
theorem st_max (h : Cx p s m args meth c G cc nL own) {index : Nat} {x y : Int32} (hl : Cond.methodLink own index Lib.Math.max.name ∈ WS) (hl1 : Cond.static Lib.Math.max.name ∈ WS) (hl2 : Cond.initialized "java/lang/Math" ∈ WS) (hl3 : Cond.code Lib.Math.max.name Lib.Math.max.code 2 (some .int) ∈ WS) (d : decode cc pc = .ok (.invokestatic index, 3)) (hR : 1 ≤ R.frames ∧ 40 ≤ R.locals) (hst : (st.map fun v => v.category).sum ≤ 20) (hc : cells ≤ R.cells ∧ slots ≤ R.slots) (k : AW p l e R s m args below meth c Q cells slots G nL (pc + 3) lv (.int (if x < y then y else x) :: st) sh ν σ) : AW p l e R s m args below meth c Q cells slots G nL pc lv (.int y :: .int x :: st) sh ν σ :=
  fun H locs ls hH hS hl' => va_mmax h.x h.b (h.ml.trans hl'.1.symm) h.o (h.t _ hl) (h.t _ hl1) (h.t _ hl2) (h.t _ hl3) hR.1 (by rw [cat_sum]; omega) hc.1 hc.2 d (k H locs ls hH hS hl')
theorem st_min (h : Cx p s m args meth c G cc nL own) {index : Nat} {x y : Int32} (hl : Cond.methodLink own index Lib.Math.min.name ∈ WS) (hl1 : Cond.static Lib.Math.min.name ∈ WS) (hl2 : Cond.initialized "java/lang/Math" ∈ WS) (hl3 : Cond.code Lib.Math.min.name Lib.Math.min.code 2 (some .int) ∈ WS) (d : decode cc pc = .ok (.invokestatic index, 3)) (hR : 1 ≤ R.frames ∧ 40 ≤ R.locals) (hst : (st.map fun v => v.category).sum ≤ 20) (hc : cells ≤ R.cells ∧ slots ≤ R.slots) (k : AW p l e R s m args below meth c Q cells slots G nL (pc + 3) lv (.int (if y < x then y else x) :: st) sh ν σ) : AW p l e R s m args below meth c Q cells slots G nL pc lv (.int y :: .int x :: st) sh ν σ :=
  fun H locs ls hH hS hl' => va_mmin h.x h.b (h.ml.trans hl'.1.symm) h.o (h.t _ hl) (h.t _ hl1) (h.t _ hl2) (h.t _ hl3) hR.1 (by rw [cat_sum]; omega) hc.1 hc.2 d (k H locs ls hH hS hl')
theorem st_abs (h : Cx p s m args meth c G cc nL own) {index : Nat} {x : Int32} (hl : Cond.methodLink own index Lib.Math.abs.name ∈ WS) (hl1 : Cond.static Lib.Math.abs.name ∈ WS) (hl2 : Cond.initialized "java/lang/Math" ∈ WS) (hl3 : Cond.code Lib.Math.abs.name Lib.Math.abs.code 1 (some .int) ∈ WS) (d : decode cc pc = .ok (.invokestatic index, 3)) (hR : 1 ≤ R.frames ∧ 40 ≤ R.locals) (hst : (st.map fun v => v.category).sum ≤ 20) (hc : cells ≤ R.cells ∧ slots ≤ R.slots) (k : AW p l e R s m args below meth c Q cells slots G nL (pc + 3) lv (.int (if 0 ≤ x then x else 0 - x) :: st) sh ν σ) : AW p l e R s m args below meth c Q cells slots G nL pc lv (.int x :: st) sh ν σ :=
  fun H locs ls hH hS hl' => va_mabs h.x h.b (h.ml.trans hl'.1.symm) h.o (h.t _ hl) (h.t _ hl1) (h.t _ hl2) (h.t _ hl3) hR.1 (by rw [cat_sum]; omega) hc.1 hc.2 d (k H locs ls hH hS hl')
end AWH
