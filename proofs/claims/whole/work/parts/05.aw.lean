/-! A WORLD AS ONE STORE: ints, longs and references by (cell, place); a shape for each cell. AW: the machine at an abstract state. -/
abbrev Sto : Type := (Nat → Nat → Int32) × (Nat → Nat → Int64) × (Nat → Nat → Option Nat)
abbrev Shp : Type := Nat → Nat × Nat
/-- a run's constants: classes and slots, array classes, the first cell and the end (0: none), the texts' cells -/
abbrev Gv : Type := va_G × (Nat → ClassId) × (Nat × Nat) × (Nat → Nat)
abbrev Cnt : Type := Nat × Bool
abbrev gA (G : Gv) : Nat → Prop := fun q => G.2.2.1.1 ≤ q ∧ (G.2.2.1.2 = 0 ∨ q < G.2.2.1.2)
def cv (G : Gv) : Value → Value
  | .ref a => .ref (G.2.2.1.1 + a)
  | .retAddr k => .ref (G.2.2.2 k)
  | v => v
def TY (ci k : Nat) : FieldType := match ci with
  | 0 => tyX0 k
  | 1 => tyX1 k
  | 2 => tyX2 k
  | 3 => tyX3 k
  | 4 => tyX4 k
  | 5 => tyX5 k
  | 6 => tyX6 k
  | 7 => tyX7 k
  | 8 => tyX8 k
  | 9 => tyX9 k
  | 10 => tyX10 k
  | 11 => tyX11 k
  | _ => tyX12 k
def NF (ci : Nat) : Nat := [1, 2, 7, 3, 11, 3, 11, 4, 15, 9, 6, 19, 51].getD ci 0
def fv (b : Nat) (I : Nat → Int32) (J : Nat → Int64) (K : Nat → Option Nat) (k : Nat) (ty : FieldType) : Value := match ty with
  | .int => .int (I k)
  | .boolean => .int (I k)
  | .long => .long (J k)
  | _ => va_rf ((K k).map (fun x => b + x))
def fl (b : Nat) (I : Nat → Int32) (J : Nat → Int64) (K : Nat → Option Nat) (ci : Nat) : List Value := (List.range (NF ci)).map (fun k => fv b I J K k (TY ci k))
def cer (G : Gv) (kd : Nat × Nat) (I : Nat → Int32) (J : Nat → Int64) (K : Nat → Option Nat) : va_E :=
  if kd.1 < 13 then .inr (kd.1, fl G.2.2.1.1 I J K kd.1)
  else if kd.1 = 20 then .inl (G.2.1 0, kd.2, .inl I)
  else if kd.1 = 21 then .inl (G.2.1 1, kd.2, .inr (.inl J))
  else if kd.1 = 22 then .inl (G.2.1 2, kd.2, .inl I)
  else if kd.1 = 23 then .inl (G.2.1 3, kd.2, .inr (.inr (.inr (.inr (fun j => (K j).map (fun x => G.2.2.1.1 + x))))))
  else .inl (G.2.1 4, kd.2, .inr (.inr (.inr (.inr (fun j => (K j).map (fun x => G.2.2.1.1 + x))))))
def ce (G : Gv) (sh : Shp) (σ : Sto) (a : Nat) : va_E := cer G (sh a) (σ.1 a) (σ.2.1 a) (σ.2.2 a)
def wl (G : Gv) (sh : Shp) (n : Nat) (σ : Sto) : va_W := (List.range n).map (fun a => (G.2.2.1.1 + a, ce G sh σ a))
def Hd (G : Gv) (sh : Shp) (ν : Cnt) (σ : Sto) (H : Heap) : Prop := va_P G.1 vwCl (wl G sh ν.1 σ) H ∧ (∀ a, (sh a).1 ≠ 99 → a < ν.1) ∧ G.2.2.1.1 + ν.1 ≤ H.size ∧ (ν.2 = true → H.size = G.2.2.1.1 + ν.1) ∧ (G.2.2.1.2 = 0 ∨ G.2.2.1.1 + ν.1 ≤ G.2.2.1.2)
def tyl (G : Gv) : List (ClassId × FieldType) := [(G.2.1 0, .int), (G.2.1 1, .long), (G.2.1 2, .boolean), (G.2.1 3, .object "BasketCap$Image"), (G.2.1 4, .object "BasketCap$Year")]
/-- one place written -/
def u2 {α : Type} (f : Nat → Nat → α) (a k : Nat) (x : α) : Nat → Nat → α := fun b j => if b = a then (if j = k then x else f b j) else f b j
def si (σ : Sto) (a k : Nat) (x : Int32) : Sto := (u2 σ.1 a k x, σ.2)
def sj (σ : Sto) (a k : Nat) (x : Int64) : Sto := (σ.1, u2 σ.2.1 a k x, σ.2.2)
def sr (σ : Sto) (a k : Nat) (x : Option Nat) : Sto := (σ.1, σ.2.1, u2 σ.2.2 a k x)
/-- a whole row of ints laid -/
def sI (σ : Sto) (a : Nat) (f : Nat → Int32) : Sto := (fun b => if b = a then f else σ.1 b, σ.2)
theorem u2_row {α : Type} (f : Nat → Nat → α) (a k : Nat) (x : α) : u2 f a k x a = fun j => if j = k then x else f a j := by funext j; simp [u2]
theorem u2_off {α : Type} {f : Nat → Nat → α} {a b k : Nat} {x : α} (h : b ≠ a) : u2 f a k x b = f b := by funext j; simp [u2, h]
theorem ce_at {G : Gv} {sh : Shp} {σ : Sto} {a : Nat} {kd : Nat × Nat} (h : sh a = kd) : ce G sh σ a = cer G kd (σ.1 a) (σ.2.1 a) (σ.2.2 a) := by rw [ce, h]
theorem ce_eq {G : Gv} {sh : Shp} {σ τ : Sto} {a : Nat} (h1 : τ.1 a = σ.1 a) (h2 : τ.2.1 a = σ.2.1 a) (h3 : τ.2.2 a = σ.2.2 a) : ce G sh τ a = ce G sh σ a := by simp only [ce, h1, h2, h3]
theorem wl_at {G : Gv} {sh : Shp} {n : Nat} {σ : Sto} {a : Nat} (h : a < n) : (wl G sh n σ)[a]? = some (G.2.2.1.1 + a, ce G sh σ a) := by
  rw [wl, List.getElem?_map, List.getElem?_range h]; rfl
theorem wl_get {G : Gv} {sh : Shp} {n : Nat} {σ : Sto} {a : Nat} {q : Nat × va_E} (h : (wl G sh n σ)[a]? = some q) : a < n ∧ q = (G.2.2.1.1 + a, ce G sh σ a) := by
  have hl : a < n := by
    have := (List.getElem?_eq_some_iff.mp h).1
    simpa [wl] using this
  rw [wl_at hl] at h
  exact ⟨hl, (Option.some.inj h).symm⟩
theorem wl_D {G : Gv} {sh : Shp} {n : Nat} {σ : Sto} (hn : G.2.2.1.2 = 0 ∨ G.2.2.1.1 + n ≤ G.2.2.1.2) : va_D (gA G) (wl G sh n σ) := by
  refine ⟨fun i j x y hi hj hxy => ?_, fun k q hk => ?_⟩
  · rw [(wl_get hi).2, (wl_get hj).2] at hxy
    exact Nat.add_left_cancel hxy
  · rw [(wl_get hk).2]
    refine ⟨Nat.le_add_right _ _, hn.elim Or.inl (fun h => Or.inr ?_)⟩
    have := (wl_get hk).1
    show G.2.2.1.1 + k < G.2.2.1.2
    omega
theorem wl_set {G : Gv} {sh : Shp} {n : Nat} {σ τ : Sto} {a : Nat} {q : Nat × va_E} (hq : q = (G.2.2.1.1 + a, ce G sh τ a)) (h : a < n) (ho : ∀ b, b ≠ a → ce G sh τ b = ce G sh σ b) : (wl G sh n σ).set a q = wl G sh n τ := by
  subst hq
  apply List.ext_getElem?
  intro k
  by_cases hk : k = a
  · subst hk
    rw [List.getElem?_set_self (by simpa [wl] using h), wl_at h]
  · rw [List.getElem?_set_ne (Ne.symm hk)]
    by_cases hn : k < n
    · rw [wl_at hn, wl_at hn, ho k hk]
    · rw [List.getElem?_eq_none (by simpa [wl] using hn), List.getElem?_eq_none (by simpa [wl] using hn)]
theorem fl_at {b : Nat} {I : Nat → Int32} {J : Nat → Int64} {K : Nat → Option Nat} {ci k : Nat} (h : k < NF ci) : (fl b I J K ci)[k]? = some (fv b I J K k (TY ci k)) := by
  rw [fl, List.getElem?_map, List.getElem?_range h]; rfl
theorem fl_len {b : Nat} {I : Nat → Int32} {J : Nat → Int64} {K : Nat → Option Nat} {ci : Nat} : (fl b I J K ci).length = NF ci := by simp [fl]
theorem fl_set {b : Nat} {I I' : Nat → Int32} {J J' : Nat → Int64} {K K' : Nat → Option Nat} {ci k : Nat} {v : Value} (h : k < NF ci) (hv : fv b I' J' K' k (TY ci k) = v) (ho : ∀ j, j ≠ k → fv b I' J' K' j (TY ci j) = fv b I J K j (TY ci j)) : (fl b I J K ci).set k v = fl b I' J' K' ci := by
  subst hv
  apply List.ext_getElem?
  intro j
  by_cases hj : j = k
  · subst hj
    rw [List.getElem?_set_self (by rw [fl_len]; exact h), fl_at h]
  · rw [List.getElem?_set_ne (Ne.symm hj)]
    by_cases hn : j < NF ci
    · rw [fl_at hn, fl_at hn, ho j hj]
    · rw [List.getElem?_eq_none (by rw [fl_len]; omega), List.getElem?_eq_none (by rw [fl_len]; omega)]
theorem cer_o {G : Gv} {ci z : Nat} {I : Nat → Int32} {J : Nat → Int64} {K : Nat → Option Nat} (h : ci < 13) : cer G (ci, z) I J K = .inr (ci, fl G.2.2.1.1 I J K ci) := by simp [cer, h]
theorem cer_i {G : Gv} {z : Nat} {I : Nat → Int32} {J : Nat → Int64} {K : Nat → Option Nat} : cer G (20, z) I J K = .inl (G.2.1 0, z, .inl I) := by simp [cer]
theorem cer_j {G : Gv} {z : Nat} {I : Nat → Int32} {J : Nat → Int64} {K : Nat → Option Nat} : cer G (21, z) I J K = .inl (G.2.1 1, z, .inr (.inl J)) := by simp [cer]
theorem cer_z {G : Gv} {z : Nat} {I : Nat → Int32} {J : Nat → Int64} {K : Nat → Option Nat} : cer G (22, z) I J K = .inl (G.2.1 2, z, .inl I) := by simp [cer]
theorem cer_m {G : Gv} {z : Nat} {I : Nat → Int32} {J : Nat → Int64} {K : Nat → Option Nat} : cer G (23, z) I J K = .inl (G.2.1 3, z, .inr (.inr (.inr (.inr (fun j => (K j).map (fun x => G.2.2.1.1 + x)))))) := by simp [cer]
theorem cer_y {G : Gv} {z : Nat} {I : Nat → Int32} {J : Nat → Int64} {K : Nat → Option Nat} : cer G (24, z) I J K = .inl (G.2.1 4, z, .inr (.inr (.inr (.inr (fun j => (K j).map (fun x => G.2.2.1.1 + x)))))) := by simp [cer]
/-- the texts: their lengths and bytes; where each class has them -/
def nTx : Nat := 12
def lenTx : List Nat := [7, 5, 4, 5, 4, 7, 6, 5, 5, 1, 5, 3]
def bytTx : List (List Int32) := [[115, 101, 114, 118, 105, 99, 101], [112, 114, 105, 99, 101], [115, 105, 122, 101], [115, 108, 111, 112, 101], [99, 111, 115, 116], [113, 117, 97, 108, 105, 116, 121], [116, 97, 114, 103, 101, 116], [98, 117, 121, 101, 114], [105, 110, 100, 101, 120], [120], [99, 97, 114, 114, 121], [100, 117, 101]]
def refTx : List (String × Nat × String × Nat) := [("BasketCap$Reader", 101, "slope", 3), ("BasketCap$Reader", 103, "cost", 4), ("BasketCap$Reader", 105, "quality", 5), ("BasketCap$Reader", 107, "target", 6), ("BasketCap$Reader", 109, "service", 0), ("BasketCap$Reader", 115, "buyer", 7), ("BasketCap$Reader", 89, "index", 8), ("BasketCap$Reader", 91, "x", 9), ("BasketCap$Reader", 93, "carry", 10), ("BasketCap$Reader", 95, "due", 11), ("BasketCap$Reader", 97, "price", 1), ("BasketCap$Reader", 99, "size", 2), ("BasketCapModel", 150, "service", 0), ("BasketCapModel", 152, "price", 1), ("BasketCapModel", 154, "size", 2), ("BasketCapModel", 155, "slope", 3), ("BasketCapModel", 157, "cost", 4), ("BasketCapModel", 159, "quality", 5), ("BasketCapModel", 161, "target", 6), ("BasketCapModel", 163, "buyer", 7), ("BasketCapModel", 165, "index", 8), ("BasketCapModel", 167, "x", 9), ("BasketCapModel", 169, "carry", 10), ("BasketCapModel", 171, "due", 11)]
def nestL : List (String × Nat × MethodName × String) := [("BasketCap", 15, ⟨"BasketCap$Reader", "<init>", "()V"⟩, "BasketCap"), ("BasketCap", 22, ⟨"BasketCap$Year", "<init>", "()V"⟩, "BasketCap"), ("BasketCap", 29, ⟨"BasketCap$Book", "<init>", "()V"⟩, "BasketCap"), ("BasketCap$Past", 15, ⟨"BasketCap$Year", "<init>", "()V"⟩, "BasketCap"), ("BasketCap", 49, ⟨"BasketCap$Search", "<init>", "()V"⟩, "BasketCap"), ("BasketCap$Finder", 11, ⟨"BasketCap$Row", "<init>", "()V"⟩, "BasketCap"), ("BasketCap$Paper", 11, ⟨"BasketCap$Row", "<init>", "()V"⟩, "BasketCap"), ("BasketCap$Paper", 20, ⟨"BasketCap$Year", "<init>", "()V"⟩, "BasketCap"), ("BasketCap", 72, ⟨"BasketCap$Deal", "<init>", "()V"⟩, "BasketCap"), ("BasketCap", 82, ⟨"BasketCap$Told", "<init>", "()V"⟩, "BasketCap"), ("BasketCap", 90, ⟨"BasketCap$Image", "<init>", "()V"⟩, "BasketCap"), ("BasketCap$Image", 9, ⟨"BasketCap$Year", "<init>", "()V"⟩, "BasketCap"), ("BasketCap$Image", 18, ⟨"BasketCap$Book", "<init>", "()V"⟩, "BasketCap")]
def Ex (G : Gv) (U : State) (H : Heap) : Prop := vk_S nTx lenTx bytTx (fun i => G.2.2.2 i) (fun i => G.2.2.2 (100 + i)) (gA G) U H ∧ (∀ q ∈ refTx, vk_R q.1 q.2.1 q.2.2.1 (G.2.2.2 q.2.2.2) U) ∧ va_Z "java/lang/String" "COMPACT_STRINGS" "Z" (.int 1) (gA G) U H ∧ (∀ q ∈ nestL, va_Nw (.methodLinkNest q.1 q.2.1 q.2.2.1 q.2.2.2) U) ∧ va_AO "BasketCap$Image" U ∧ va_AO "BasketCap$Year" U ∧ (va_Z "jdk/internal/util/Preconditions" "SIOOBE_FORMATTER" "Ljava/util/function/BiFunction;" .null (gA G) U H ∨ va_Z "jdk/internal/util/Preconditions" "SIOOBE_FORMATTER" "Ljava/util/function/BiFunction;" (.ref (G.2.2.2 200)) (gA G) U H)
theorem Ex.on {G : Gv} {s U : State} {H : Heap} {locs : List Loc} (h : Ex G s s.heap) (hS : va_S (gA G) s.heap H locs) (hU : U.heap = H) (hW : s.WarmedH U.vm) : Ex G U U.heap := by
  obtain ⟨h1, h2, h3, h4, h5, h6, h7⟩ := h
  rw [hU]
  exact ⟨(h1.kept (fun a ha hn => hS.2.1 a ha hn)).moved hW.alike, fun q hq => (h2 q hq).warm hW, (h3.kept (fun a ha hn => hS.2.1 a ha hn)).moved hW.alike, fun q hq => va_Nw.warmM hW (h4 q hq), h5.moved hW.alike, h6.moved hW.alike, h7.imp (fun z => (z.kept (fun a ha hn => hS.2.1 a ha hn)).moved hW.alike) (fun z => (z.kept (fun a ha hn => hS.2.1 a ha hn)).moved hW.alike)⟩
theorem Ex.blind {G : Gv} {U : State} {g : JFrame} {mk : MethodId} {a : Array Value} (h : Ex G U U.heap) : Ex G (U.calling g mk a) (U.calling g mk a).heap := by
  obtain ⟨h1, h2, h3, h4, h5, h6, h7⟩ := h
  exact ⟨h1.moved (u := U) (U := U.calling g mk a) (Vm.Alike.refl U.vm), fun q hq => (h2 q hq).same rfl, h3.moved (u := U) (U := U.calling g mk a) (Vm.Alike.refl U.vm), fun q hq => va_Nw.same rfl rfl (h4 q hq), h5.moved (u := U) (U := U.calling g mk a) (Vm.Alike.refl U.vm), h6.moved (u := U) (U := U.calling g mk a) (Vm.Alike.refl U.vm), h7.imp (fun z => z.moved (u := U) (U := U.calling g mk a) (Vm.Alike.refl U.vm)) (fun z => z.moved (u := U) (U := U.calling g mk a) (Vm.Alike.refl U.vm))⟩

/-! the locals: place by place, none where nothing is known -/
def lvp (G : Gv) : Nat → List (Option Value) → List (Nat × Value)
  | _, [] => []
  | i, none :: r => lvp G (i + 1) r
  | i, some v :: r => (i, cv G v) :: lvp G (i + 1) r
theorem lvp_in {G : Gv} : ∀ {lv : List (Option Value)} {i j : Nat} {w : Value}, (j, w) ∈ lvp G i lv → ∃ k v, j = i + k ∧ lv[k]? = some (some v) ∧ w = cv G v
  | [], _, _, _, h => by cases h
  | none :: r, i, j, w, h => by
    obtain ⟨k, v, h1, h2, h3⟩ := lvp_in (lv := r) (i := i + 1) h
    exact ⟨k + 1, v, by omega, h2, h3⟩
  | some u :: r, i, j, w, h => by
    rcases List.mem_cons.mp h with h | h
    · cases h
      exact ⟨0, u, rfl, rfl, rfl⟩
    · obtain ⟨k, v, h1, h2, h3⟩ := lvp_in (lv := r) (i := i + 1) h
      exact ⟨k + 1, v, by omega, h2, h3⟩
theorem lvp_mem {G : Gv} : ∀ {lv : List (Option Value)} {i k : Nat} {v : Value}, lv[k]? = some (some v) → (i + k, cv G v) ∈ lvp G i lv
  | [], _, _, _, h => by cases h
  | none :: r, i, 0, v, h => by cases h
  | none :: r, i, k + 1, v, h => by
    have h1 := lvp_mem (G := G) (lv := r) (i := i + 1) (k := k) (v := v) h
    rw [show i + (k + 1) = i + 1 + k by omega]
    exact h1
  | some u :: r, i, 0, v, h => by cases h; exact List.mem_cons_self
  | some u :: r, i, k + 1, v, h => by
    have h1 := lvp_mem (G := G) (lv := r) (i := i + 1) (k := k) (v := v) h
    rw [show i + (k + 1) = i + 1 + k by omega]
    exact List.mem_cons_of_mem _ h1
def lh (G : Gv) (ls : Array Slot) (nL : Nat) (lv : List (Option Value)) : Prop := lv_has ls nL (lvp G 0 lv)
theorem lh_at {G : Gv} {ls : Array Slot} {nL : Nat} {lv : List (Option Value)} {k : Nat} {v : Value} (h : lh G ls nL lv) (hk : lv[k]? = some (some v)) : ls[k]? = some (.val (cv G v)) := by
  have h1 := h.2.2 _ (lvp_mem (G := G) (i := 0) hk)
  rwa [Nat.zero_add] at h1
theorem cv_cat (G : Gv) (v : Value) : (cv G v).category = v.category := by cases v <;> rfl
/-- the place before isn't a long's -/
def okp (lv : List (Option Value)) (i : Nat) : Bool := match i with
  | 0 => true
  | i + 1 => match lv[i]? with
    | some (some v) => v.category == 1
    | _ => true
theorem lh_set {G : Gv} {ls : Array Slot} {nL : Nat} {lv : List (Option Value)} {i : Nat} {v : Value} (hp : okp lv i = true)
    (h : lv_has ls nL ((i, cv G v) :: (lvp G 0 lv).filter (fun q => !(q.1 == i) && !(q.1 + 1 == i && q.2.category == 2)))) : lh G ls nL (lv.set i (some v)) := by
  refine ⟨h.1, h.2.1, fun q hq => ?_⟩
  obtain ⟨k, w, h1, h2, h3⟩ := lvp_in (lv := lv.set i (some v)) hq
  have e1 : q.1 = k := by omega
  by_cases hk : k = i
  · subst hk
    have hw : w = v := by
      by_cases hl : k < lv.length
      · rw [List.getElem?_set_self hl] at h2
        exact (Option.some.inj (Option.some.inj h2)).symm
      · rw [List.getElem?_eq_none (by rw [List.length_set]; omega)] at h2
        cases h2
    rw [e1, h3, hw]
    exact h.2.2 (k, cv G v) List.mem_cons_self
  · rw [List.getElem?_set_ne (Ne.symm hk)] at h2
    have hm : (k, cv G w) ∈ lvp G 0 lv := by
      have := lvp_mem (G := G) (i := 0) h2
      rwa [Nat.zero_add] at this
    rw [e1, h3]
    refine h.2.2 (k, cv G w) (List.mem_cons_of_mem _ (List.mem_filter.mpr ⟨hm, ?_⟩))
    simp only [Bool.and_eq_true, Bool.not_eq_true', beq_eq_false_iff_ne, ne_eq, Bool.and_eq_false_iff]
    refine ⟨hk, ?_⟩
    by_cases hki : k + 1 = i
    · refine Or.inr ?_
      subst hki
      simp only [okp, h2, beq_iff_eq] at hp
      rw [cv_cat, hp]
      decide
    · exact Or.inl hki
theorem lh_setL {G : Gv} {ls : Array Slot} {nL : Nat} {lv : List (Option Value)} {i : Nat} {v : Value} (hp : okp lv i = true)
    (h : lv_has ls nL ((i, cv G v) :: (lvp G 0 lv).filter (fun q => !(q.1 == i) && (!(q.1 == i + 1) && !(q.1 + 1 == i && q.2.category == 2))))) : lh G ls nL ((lv.set i (some v)).set (i + 1) none) := by
  refine ⟨h.1, h.2.1, fun q hq => ?_⟩
  obtain ⟨k, w, h1, h2, h3⟩ := lvp_in (lv := (lv.set i (some v)).set (i + 1) none) hq
  have e1 : q.1 = k := by omega
  have hk1 : k ≠ i + 1 := by
    intro hk1
    subst hk1
    by_cases hl : i + 1 < lv.length
    · rw [List.getElem?_set_self (by rw [List.length_set]; exact hl)] at h2
      cases h2
    · rw [List.getElem?_eq_none (by rw [List.length_set, List.length_set]; omega)] at h2
      cases h2
  rw [List.getElem?_set_ne (Ne.symm hk1)] at h2
  by_cases hk : k = i
  · subst hk
    have hw : w = v := by
      by_cases hl : k < lv.length
      · rw [List.getElem?_set_self hl] at h2
        exact (Option.some.inj (Option.some.inj h2)).symm
      · rw [List.getElem?_eq_none (by rw [List.length_set]; omega)] at h2
        cases h2
    rw [e1, h3, hw]
    exact h.2.2 (k, cv G v) List.mem_cons_self
  · rw [List.getElem?_set_ne (Ne.symm hk)] at h2
    have hm : (k, cv G w) ∈ lvp G 0 lv := by
      have := lvp_mem (G := G) (i := 0) h2
      rwa [Nat.zero_add] at this
    rw [e1, h3]
    refine h.2.2 (k, cv G w) (List.mem_cons_of_mem _ (List.mem_filter.mpr ⟨hm, ?_⟩))
    simp only [Bool.and_eq_true, Bool.not_eq_true', beq_eq_false_iff_ne, ne_eq, Bool.and_eq_false_iff]
    refine ⟨hk, hk1, ?_⟩
    by_cases hki : k + 1 = i
    · refine Or.inr ?_
      subst hki
      simp only [okp, h2, beq_iff_eq] at hp
      rw [cv_cat, hp]
      decide
    · exact Or.inl hki

/-! AW and its context -/
def AW (p : Program) (l : Launch) (e : Env) (R : Room) (s : State) (m : MethodId) (args : Array Value) (below : List Frame) (meth : Method) (c : Code) (Q : State → Prop) (cells slots : Nat) (G : Gv) (nL : Nat) (pc : Nat) (lv : List (Option Value)) (st : List Value) (sh : Shp) (ν : Cnt) (σ : Sto) : Prop :=
  ∀ (H : Heap) (locs : List Loc) (ls : Array Slot), Hd G sh ν σ H → va_S (gA G) s.heap H locs → lh G ls nL lv → W p l e R s m args below meth c H locs cells slots Q (F0 m pc ls (st.map (cv G)))
def Cx (p : Program) (s : State) (m : MethodId) (args : Array Value) (meth : Method) (c : Code) (G : Gv) (cc : ByteArray) (nL : Nat) (own : String) : Prop :=
  p.tables.exec = Jvm.exec ∧ c.code = cc ∧ c.maxLocals = nL ∧ s.vm.findClass own = some m.cls ∧ (∀ w ∈ WS, w.before args s = true) ∧ va_K G.1 vwCl (tyl G) s ∧ Ex G s s.heap ∧ meth.locks = false ∧ G.2.2.1.1 ≤ s.heap.size
section AWS
variable {p : Program} {l : Launch} {e : Env} {R : Room} {s : State} {m : MethodId} {args : Array Value} {below : List Frame} {meth : Method} {c : Code} {Q : State → Prop} {cells slots : Nat}
variable {G : Gv} {cc : ByteArray} {nL : Nat} {own : String} {pc : Nat} {lv : List (Option Value)} {st : List Value} {sh : Shp} {ν : Cnt} {σ : Sto}
theorem Cx.x (h : Cx p s m args meth c G cc nL own) : p.tables.exec = Jvm.exec := h.1
theorem Cx.b (h : Cx p s m args meth c G cc nL own) : c.code = cc := h.2.1
theorem Cx.ml (h : Cx p s m args meth c G cc nL own) : c.maxLocals = nL := h.2.2.1
theorem Cx.o (h : Cx p s m args meth c G cc nL own) : s.vm.findClass own = some m.cls := h.2.2.2.1
theorem Cx.t (h : Cx p s m args meth c G cc nL own) : ∀ w ∈ WS, w.before args s = true := h.2.2.2.2.1
theorem Cx.k (h : Cx p s m args meth c G cc nL own) : va_K G.1 vwCl (tyl G) s := h.2.2.2.2.2.1
theorem Cx.ex (h : Cx p s m args meth c G cc nL own) : Ex G s s.heap := h.2.2.2.2.2.2.1
theorem Cx.lk (h : Cx p s m args meth c G cc nL own) : meth.locks = false := h.2.2.2.2.2.2.2.1
theorem Cx.z (h : Cx p s m args meth c G cc nL own) : G.2.2.1.1 ≤ s.heap.size := h.2.2.2.2.2.2.2.2

theorem st_iconst (h : Cx p s m args meth c G cc nL own) {n : Int} {v : Int32} (d : decode cc pc = .ok (.iconst n, 1)) (hv : Int32.ofInt n = v) (k : AW p l e R s m args below meth c Q cells slots G nL (pc + 1) lv (.int v :: st) sh ν σ) : AW p l e R s m args below meth c Q cells slots G nL pc lv (st) sh ν σ :=
  fun H locs ls hH hS hl => lv_iconst h.x h.b d hv (k H locs ls hH hS hl)
theorem st_bipush (h : Cx p s m args meth c G cc nL own) {n : Int} {v : Int32} (d : decode cc pc = .ok (.bipush n, 2)) (hv : (Int8.ofInt n).toInt32 = v) (k : AW p l e R s m args below meth c Q cells slots G nL (pc + 2) lv (.int v :: st) sh ν σ) : AW p l e R s m args below meth c Q cells slots G nL pc lv (st) sh ν σ :=
  fun H locs ls hH hS hl => lv_bipush h.x h.b d hv (k H locs ls hH hS hl)
theorem st_sipush (h : Cx p s m args meth c G cc nL own) {n : Int} {v : Int32} (d : decode cc pc = .ok (.sipush n, 3)) (hv : (Int16.ofInt n).toInt32 = v) (k : AW p l e R s m args below meth c Q cells slots G nL (pc + 3) lv (.int v :: st) sh ν σ) : AW p l e R s m args below meth c Q cells slots G nL pc lv (st) sh ν σ :=
  fun H locs ls hH hS hl => lv_sipush h.x h.b d hv (k H locs ls hH hS hl)
theorem st_lconst (h : Cx p s m args meth c G cc nL own) {n : Fin 2} {v : Int64} (d : decode cc pc = .ok (.lconst n, 1)) (hv : Int64.ofNat (n : Nat) = v) (k : AW p l e R s m args below meth c Q cells slots G nL (pc + 1) lv (.long v :: st) sh ν σ) : AW p l e R s m args below meth c Q cells slots G nL pc lv (st) sh ν σ :=
  fun H locs ls hH hS hl => lv_lconst h.x h.b d hv (k H locs ls hH hS hl)
theorem st_null (h : Cx p s m args meth c G cc nL own)  (d : decode cc pc = .ok (.aconst_null, 1)) (k : AW p l e R s m args below meth c Q cells slots G nL (pc + 1) lv (.null :: st) sh ν σ) : AW p l e R s m args below meth c Q cells slots G nL pc lv (st) sh ν σ :=
  fun H locs ls hH hS hl => lv_null h.x h.b d (k H locs ls hH hS hl)
theorem st_ldc (h : Cx p s m args meth c G cc nL own) {index : Nat} {v : Int32} (hw : Cond.constant own index v ∈ WS) (d : decode cc pc = .ok (.ldc index, 2)) (k : AW p l e R s m args below meth c Q cells slots G nL (pc + 2) lv (.int v :: st) sh ν σ) : AW p l e R s m args below meth c Q cells slots G nL pc lv (st) sh ν σ :=
  fun H locs ls hH hS hl => lv_ldc h.x h.b h.o (h.t _ hw) d (k H locs ls hH hS hl)
theorem st_ldcw (h : Cx p s m args meth c G cc nL own) {index : Nat} {v : Int32} (hw : Cond.constant own index v ∈ WS) (d : decode cc pc = .ok (.ldc_w index, 3)) (k : AW p l e R s m args below meth c Q cells slots G nL (pc + 3) lv (.int v :: st) sh ν σ) : AW p l e R s m args below meth c Q cells slots G nL pc lv (st) sh ν σ :=
  fun H locs ls hH hS hl => lv_ldcw h.x h.b h.o (h.t _ hw) d (k H locs ls hH hS hl)
theorem st_ldc2 (h : Cx p s m args meth c G cc nL own) {index : Nat} {v : Int64} (hw : Cond.constantLong own index v ∈ WS) (d : decode cc pc = .ok (.ldc2_w index, 3)) (k : AW p l e R s m args below meth c Q cells slots G nL (pc + 3) lv (.long v :: st) sh ν σ) : AW p l e R s m args below meth c Q cells slots G nL pc lv (st) sh ν σ :=
  fun H locs ls hH hS hl => lv_ldc2 h.x h.b h.o (h.t _ hw) d (k H locs ls hH hS hl)
theorem st_ldcS (h : Cx p s m args meth c G cc nL own) {index : Nat} {tx : String} {i : Nat} (hw : (own, index, tx, i) ∈ refTx) (d : decode cc pc = .ok (.ldc index, 2)) (k : AW p l e R s m args below meth c Q cells slots G nL (pc + 2) lv (.retAddr i :: st) sh ν σ) : AW p l e R s m args below meth c Q cells slots G nL pc lv (st) sh ν σ :=
  fun H locs ls hH hS hl => va_ldcS h.x h.b h.o (h.ex.2.1 _ hw) d (k H locs ls hH hS hl)
theorem st_ic_m1 (h : Cx p s m args meth c G cc nL own)  (d : decode cc pc = .ok (.iconst (-1), 1)) (k : AW p l e R s m args below meth c Q cells slots G nL (pc + 1) lv (.int (-1) :: st) sh ν σ) : AW p l e R s m args below meth c Q cells slots G nL pc lv (st) sh ν σ :=
  fun H locs ls hH hS hl => lv_iconst h.x h.b d (by decide) (k H locs ls hH hS hl)
theorem st_ic_0 (h : Cx p s m args meth c G cc nL own)  (d : decode cc pc = .ok (.iconst 0, 1)) (k : AW p l e R s m args below meth c Q cells slots G nL (pc + 1) lv (.int 0 :: st) sh ν σ) : AW p l e R s m args below meth c Q cells slots G nL pc lv (st) sh ν σ :=
  fun H locs ls hH hS hl => lv_iconst h.x h.b d (by decide) (k H locs ls hH hS hl)
theorem st_ic_1 (h : Cx p s m args meth c G cc nL own)  (d : decode cc pc = .ok (.iconst 1, 1)) (k : AW p l e R s m args below meth c Q cells slots G nL (pc + 1) lv (.int 1 :: st) sh ν σ) : AW p l e R s m args below meth c Q cells slots G nL pc lv (st) sh ν σ :=
  fun H locs ls hH hS hl => lv_iconst h.x h.b d (by decide) (k H locs ls hH hS hl)
theorem st_ic_2 (h : Cx p s m args meth c G cc nL own)  (d : decode cc pc = .ok (.iconst 2, 1)) (k : AW p l e R s m args below meth c Q cells slots G nL (pc + 1) lv (.int 2 :: st) sh ν σ) : AW p l e R s m args below meth c Q cells slots G nL pc lv (st) sh ν σ :=
  fun H locs ls hH hS hl => lv_iconst h.x h.b d (by decide) (k H locs ls hH hS hl)
theorem st_ic_3 (h : Cx p s m args meth c G cc nL own)  (d : decode cc pc = .ok (.iconst 3, 1)) (k : AW p l e R s m args below meth c Q cells slots G nL (pc + 1) lv (.int 3 :: st) sh ν σ) : AW p l e R s m args below meth c Q cells slots G nL pc lv (st) sh ν σ :=
  fun H locs ls hH hS hl => lv_iconst h.x h.b d (by decide) (k H locs ls hH hS hl)
theorem st_ic_4 (h : Cx p s m args meth c G cc nL own)  (d : decode cc pc = .ok (.iconst 4, 1)) (k : AW p l e R s m args below meth c Q cells slots G nL (pc + 1) lv (.int 4 :: st) sh ν σ) : AW p l e R s m args below meth c Q cells slots G nL pc lv (st) sh ν σ :=
  fun H locs ls hH hS hl => lv_iconst h.x h.b d (by decide) (k H locs ls hH hS hl)
theorem st_ic_5 (h : Cx p s m args meth c G cc nL own)  (d : decode cc pc = .ok (.iconst 5, 1)) (k : AW p l e R s m args below meth c Q cells slots G nL (pc + 1) lv (.int 5 :: st) sh ν σ) : AW p l e R s m args below meth c Q cells slots G nL pc lv (st) sh ν σ :=
  fun H locs ls hH hS hl => lv_iconst h.x h.b d (by decide) (k H locs ls hH hS hl)
theorem st_iadd (h : Cx p s m args meth c G cc nL own) {x y : Int32} (d : decode cc pc = .ok (.iadd, 1)) (k : AW p l e R s m args below meth c Q cells slots G nL (pc + 1) lv (.int (x + y) :: st) sh ν σ) : AW p l e R s m args below meth c Q cells slots G nL pc lv (.int y :: .int x :: st) sh ν σ :=
  fun H locs ls hH hS hl => lv_iadd h.x h.b d (k H locs ls hH hS hl)
theorem st_isub (h : Cx p s m args meth c G cc nL own) {x y : Int32} (d : decode cc pc = .ok (.isub, 1)) (k : AW p l e R s m args below meth c Q cells slots G nL (pc + 1) lv (.int (x - y) :: st) sh ν σ) : AW p l e R s m args below meth c Q cells slots G nL pc lv (.int y :: .int x :: st) sh ν σ :=
  fun H locs ls hH hS hl => lv_isub h.x h.b d (k H locs ls hH hS hl)
theorem st_imul (h : Cx p s m args meth c G cc nL own) {x y : Int32} (d : decode cc pc = .ok (.imul, 1)) (k : AW p l e R s m args below meth c Q cells slots G nL (pc + 1) lv (.int (x * y) :: st) sh ν σ) : AW p l e R s m args below meth c Q cells slots G nL pc lv (.int y :: .int x :: st) sh ν σ :=
  fun H locs ls hH hS hl => lv_imul h.x h.b d (k H locs ls hH hS hl)
theorem st_iand (h : Cx p s m args meth c G cc nL own) {x y : Int32} (d : decode cc pc = .ok (.iand, 1)) (k : AW p l e R s m args below meth c Q cells slots G nL (pc + 1) lv (.int (x &&& y) :: st) sh ν σ) : AW p l e R s m args below meth c Q cells slots G nL pc lv (.int y :: .int x :: st) sh ν σ :=
  fun H locs ls hH hS hl => lv_iand h.x h.b d (k H locs ls hH hS hl)
theorem st_ior (h : Cx p s m args meth c G cc nL own) {x y : Int32} (d : decode cc pc = .ok (.ior, 1)) (k : AW p l e R s m args below meth c Q cells slots G nL (pc + 1) lv (.int (x ||| y) :: st) sh ν σ) : AW p l e R s m args below meth c Q cells slots G nL pc lv (.int y :: .int x :: st) sh ν σ :=
  fun H locs ls hH hS hl => lv_ior h.x h.b d (k H locs ls hH hS hl)
theorem st_ishl (h : Cx p s m args meth c G cc nL own) {x y : Int32} (d : decode cc pc = .ok (.ishl, 1)) (k : AW p l e R s m args below meth c Q cells slots G nL (pc + 1) lv (.int (x <<< (y &&& 31)) :: st) sh ν σ) : AW p l e R s m args below meth c Q cells slots G nL pc lv (.int y :: .int x :: st) sh ν σ :=
  fun H locs ls hH hS hl => lv_ishl h.x h.b d (k H locs ls hH hS hl)
theorem st_ishr (h : Cx p s m args meth c G cc nL own) {x y : Int32} (d : decode cc pc = .ok (.ishr, 1)) (k : AW p l e R s m args below meth c Q cells slots G nL (pc + 1) lv (.int (x >>> (y &&& 31)) :: st) sh ν σ) : AW p l e R s m args below meth c Q cells slots G nL pc lv (.int y :: .int x :: st) sh ν σ :=
  fun H locs ls hH hS hl => lv_ishr h.x h.b d (k H locs ls hH hS hl)
theorem st_iushr (h : Cx p s m args meth c G cc nL own) {x y : Int32} (d : decode cc pc = .ok (.iushr, 1)) (k : AW p l e R s m args below meth c Q cells slots G nL (pc + 1) lv (.int ((x.toUInt32 >>> (y.toUInt32 &&& Int32.toUInt32 31)).toInt32) :: st) sh ν σ) : AW p l e R s m args below meth c Q cells slots G nL pc lv (.int y :: .int x :: st) sh ν σ :=
  fun H locs ls hH hS hl => lv_iushr h.x h.b d rfl (k H locs ls hH hS hl)
theorem st_idiv (h : Cx p s m args meth c G cc nL own) {x y : Int32} (hn : ¬ y = 0) (d : decode cc pc = .ok (.idiv, 1)) (k : AW p l e R s m args below meth c Q cells slots G nL (pc + 1) lv (.int (x / y) :: st) sh ν σ) : AW p l e R s m args below meth c Q cells slots G nL pc lv (.int y :: .int x :: st) sh ν σ :=
  fun H locs ls hH hS hl => lv_idiv h.x h.b d hn (k H locs ls hH hS hl)
theorem st_irem (h : Cx p s m args meth c G cc nL own) {x y : Int32} (hn : ¬ y = 0) (d : decode cc pc = .ok (.irem, 1)) (k : AW p l e R s m args below meth c Q cells slots G nL (pc + 1) lv (.int (x - x / y * y) :: st) sh ν σ) : AW p l e R s m args below meth c Q cells slots G nL pc lv (.int y :: .int x :: st) sh ν σ :=
  fun H locs ls hH hS hl => lv_irem h.x h.b d hn (k H locs ls hH hS hl)
theorem st_ineg (h : Cx p s m args meth c G cc nL own) {x : Int32} (d : decode cc pc = .ok (.ineg, 1)) (k : AW p l e R s m args below meth c Q cells slots G nL (pc + 1) lv (.int (-x) :: st) sh ν σ) : AW p l e R s m args below meth c Q cells slots G nL pc lv (.int x :: st) sh ν σ :=
  fun H locs ls hH hS hl => lv_ineg h.x h.b d (k H locs ls hH hS hl)
theorem st_ladd (h : Cx p s m args meth c G cc nL own) {x y : Int64} (d : decode cc pc = .ok (.ladd, 1)) (k : AW p l e R s m args below meth c Q cells slots G nL (pc + 1) lv (.long (x + y) :: st) sh ν σ) : AW p l e R s m args below meth c Q cells slots G nL pc lv (.long y :: .long x :: st) sh ν σ :=
  fun H locs ls hH hS hl => lv_ladd h.x h.b d (k H locs ls hH hS hl)
theorem st_lsub (h : Cx p s m args meth c G cc nL own) {x y : Int64} (d : decode cc pc = .ok (.lsub, 1)) (k : AW p l e R s m args below meth c Q cells slots G nL (pc + 1) lv (.long (x - y) :: st) sh ν σ) : AW p l e R s m args below meth c Q cells slots G nL pc lv (.long y :: .long x :: st) sh ν σ :=
  fun H locs ls hH hS hl => lv_lsub h.x h.b d (k H locs ls hH hS hl)
theorem st_lmul (h : Cx p s m args meth c G cc nL own) {x y : Int64} (d : decode cc pc = .ok (.lmul, 1)) (k : AW p l e R s m args below meth c Q cells slots G nL (pc + 1) lv (.long (x * y) :: st) sh ν σ) : AW p l e R s m args below meth c Q cells slots G nL pc lv (.long y :: .long x :: st) sh ν σ :=
  fun H locs ls hH hS hl => lv_lmul h.x h.b d (k H locs ls hH hS hl)
theorem st_land (h : Cx p s m args meth c G cc nL own) {x y : Int64} (d : decode cc pc = .ok (.land, 1)) (k : AW p l e R s m args below meth c Q cells slots G nL (pc + 1) lv (.long (x &&& y) :: st) sh ν σ) : AW p l e R s m args below meth c Q cells slots G nL pc lv (.long y :: .long x :: st) sh ν σ :=
  fun H locs ls hH hS hl => lv_land h.x h.b d (k H locs ls hH hS hl)
theorem st_lor (h : Cx p s m args meth c G cc nL own) {x y : Int64} (d : decode cc pc = .ok (.lor, 1)) (k : AW p l e R s m args below meth c Q cells slots G nL (pc + 1) lv (.long (x ||| y) :: st) sh ν σ) : AW p l e R s m args below meth c Q cells slots G nL pc lv (.long y :: .long x :: st) sh ν σ :=
  fun H locs ls hH hS hl => lv_lor h.x h.b d (k H locs ls hH hS hl)
theorem st_ldiv (h : Cx p s m args meth c G cc nL own) {x y : Int64} (hn : ¬ y = 0) (d : decode cc pc = .ok (.ldiv, 1)) (k : AW p l e R s m args below meth c Q cells slots G nL (pc + 1) lv (.long (x / y) :: st) sh ν σ) : AW p l e R s m args below meth c Q cells slots G nL pc lv (.long y :: .long x :: st) sh ν σ :=
  fun H locs ls hH hS hl => lv_ldiv h.x h.b d hn (k H locs ls hH hS hl)
theorem st_lrem (h : Cx p s m args meth c G cc nL own) {x y : Int64} (hn : ¬ y = 0) (d : decode cc pc = .ok (.lrem, 1)) (k : AW p l e R s m args below meth c Q cells slots G nL (pc + 1) lv (.long (x - x / y * y) :: st) sh ν σ) : AW p l e R s m args below meth c Q cells slots G nL pc lv (.long y :: .long x :: st) sh ν σ :=
  fun H locs ls hH hS hl => lv_lrem h.x h.b d hn (k H locs ls hH hS hl)
theorem st_lshl (h : Cx p s m args meth c G cc nL own) {x : Int64} {y : Int32} (d : decode cc pc = .ok (.lshl, 1)) (k : AW p l e R s m args below meth c Q cells slots G nL (pc + 1) lv (.long (x <<< (y.toInt64 &&& 63)) :: st) sh ν σ) : AW p l e R s m args below meth c Q cells slots G nL pc lv (.int y :: .long x :: st) sh ν σ :=
  fun H locs ls hH hS hl => lv_lshl h.x h.b d rfl (k H locs ls hH hS hl)
theorem st_lushr (h : Cx p s m args meth c G cc nL own) {x : Int64} {y : Int32} (d : decode cc pc = .ok (.lushr, 1)) (k : AW p l e R s m args below meth c Q cells slots G nL (pc + 1) lv (.long ((x.toUInt64 >>> (y.toInt64.toUInt64 &&& Int64.toUInt64 63)).toInt64) :: st) sh ν σ) : AW p l e R s m args below meth c Q cells slots G nL pc lv (.int y :: .long x :: st) sh ν σ :=
  fun H locs ls hH hS hl => lv_lushr h.x h.b d rfl (k H locs ls hH hS hl)
theorem st_i2l (h : Cx p s m args meth c G cc nL own) {x : Int32} (d : decode cc pc = .ok (.i2l, 1)) (k : AW p l e R s m args below meth c Q cells slots G nL (pc + 1) lv (.long x.toInt64 :: st) sh ν σ) : AW p l e R s m args below meth c Q cells slots G nL pc lv (.int x :: st) sh ν σ :=
  fun H locs ls hH hS hl => lv_i2l h.x h.b d rfl (k H locs ls hH hS hl)
theorem st_l2i (h : Cx p s m args meth c G cc nL own) {x : Int64} (d : decode cc pc = .ok (.l2i, 1)) (k : AW p l e R s m args below meth c Q cells slots G nL (pc + 1) lv (.int x.toInt32 :: st) sh ν σ) : AW p l e R s m args below meth c Q cells slots G nL pc lv (.long x :: st) sh ν σ :=
  fun H locs ls hH hS hl => lv_l2i h.x h.b d rfl (k H locs ls hH hS hl)
theorem st_lcmp (h : Cx p s m args meth c G cc nL own) {x y : Int64} (d : decode cc pc = .ok (.lcmp, 1)) (k : AW p l e R s m args below meth c Q cells slots G nL (pc + 1) lv (.int (lg_cmp x y) :: st) sh ν σ) : AW p l e R s m args below meth c Q cells slots G nL pc lv (.long y :: .long x :: st) sh ν σ :=
  fun H locs ls hH hS hl => W.lcmp h.x h.b d (k H locs ls hH hS hl)
theorem st_dup (h : Cx p s m args meth c G cc nL own) {v : Value} (hc : v.category = 1) (d : decode cc pc = .ok (.dup, 1)) (k : AW p l e R s m args below meth c Q cells slots G nL (pc + 1) lv (v :: v :: st) sh ν σ) : AW p l e R s m args below meth c Q cells slots G nL pc lv (v :: st) sh ν σ :=
  fun H locs ls hH hS hl => lv_dup h.x h.b d ((cv_cat G v).trans hc) (k H locs ls hH hS hl)
theorem st_pop (h : Cx p s m args meth c G cc nL own) {v : Value} (hc : v.category = 1) (d : decode cc pc = .ok (.pop, 1)) (k : AW p l e R s m args below meth c Q cells slots G nL (pc + 1) lv (st) sh ν σ) : AW p l e R s m args below meth c Q cells slots G nL pc lv (v :: st) sh ν σ :=
  fun H locs ls hH hS hl => lv_pop h.x h.b d ((cv_cat G v).trans hc) (k H locs ls hH hS hl)
theorem st_dup2 (h : Cx p s m args meth c G cc nL own) {v w : Value} (hc : v.category = 1) (hc2 : w.category = 1) (d : decode cc pc = .ok (.dup2, 1)) (k : AW p l e R s m args below meth c Q cells slots G nL (pc + 1) lv (v :: w :: v :: w :: st) sh ν σ) : AW p l e R s m args below meth c Q cells slots G nL pc lv (v :: w :: st) sh ν σ :=
  fun H locs ls hH hS hl => lv_dup2_11 h.x h.b d ((cv_cat G v).trans hc) ((cv_cat G w).trans hc2) (k H locs ls hH hS hl)
theorem st_goto (h : Cx p s m args meth c G cc nL own) {off : Int} {t : Nat} (d : decode cc pc = .ok (.goto off, 3)) (ht : (pc : Int) + off = (t : Int)) (k : AW p l e R s m args below meth c Q cells slots G nL (t) lv (st) sh ν σ) : AW p l e R s m args below meth c Q cells slots G nL pc lv (st) sh ν σ :=
  fun H locs ls hH hS hl => lv_goto h.x h.b d ht (k H locs ls hH hS hl)
theorem st_icmp_eq (h : Cx p s m args meth c G cc nL own) {x y : Int32} {off : Int} {t : Nat} (d : decode cc pc = .ok (.if_icmp .eq off, 3)) (ht : (pc : Int) + off = (t : Int)) (kt : x = y → AW p l e R s m args below meth c Q cells slots G nL t lv st sh ν σ) (kf : ¬ (x = y) → AW p l e R s m args below meth c Q cells slots G nL (pc + 3) lv st sh ν σ) : AW p l e R s m args below meth c Q cells slots G nL pc lv (.int y :: .int x :: st) sh ν σ :=
  fun H locs ls hH hS hl => lv_icmp_eq h.x h.b d ht (fun q => kt q H locs ls hH hS hl) (fun q => kf q H locs ls hH hS hl)
theorem st_icmp_ne (h : Cx p s m args meth c G cc nL own) {x y : Int32} {off : Int} {t : Nat} (d : decode cc pc = .ok (.if_icmp .ne off, 3)) (ht : (pc : Int) + off = (t : Int)) (kt : ¬ x = y → AW p l e R s m args below meth c Q cells slots G nL t lv st sh ν σ) (kf : x = y → AW p l e R s m args below meth c Q cells slots G nL (pc + 3) lv st sh ν σ) : AW p l e R s m args below meth c Q cells slots G nL pc lv (.int y :: .int x :: st) sh ν σ :=
  fun H locs ls hH hS hl => lv_icmp_ne h.x h.b d ht (fun q => kt q H locs ls hH hS hl) (fun q => kf q H locs ls hH hS hl)
theorem st_icmp_lt (h : Cx p s m args meth c G cc nL own) {x y : Int32} {off : Int} {t : Nat} (d : decode cc pc = .ok (.if_icmp .lt off, 3)) (ht : (pc : Int) + off = (t : Int)) (kt : x < y → AW p l e R s m args below meth c Q cells slots G nL t lv st sh ν σ) (kf : ¬ (x < y) → AW p l e R s m args below meth c Q cells slots G nL (pc + 3) lv st sh ν σ) : AW p l e R s m args below meth c Q cells slots G nL pc lv (.int y :: .int x :: st) sh ν σ :=
  fun H locs ls hH hS hl => lv_icmp_lt h.x h.b d ht (fun q => kt q H locs ls hH hS hl) (fun q => kf q H locs ls hH hS hl)
theorem st_icmp_ge (h : Cx p s m args meth c G cc nL own) {x y : Int32} {off : Int} {t : Nat} (d : decode cc pc = .ok (.if_icmp .ge off, 3)) (ht : (pc : Int) + off = (t : Int)) (kt : y ≤ x → AW p l e R s m args below meth c Q cells slots G nL t lv st sh ν σ) (kf : ¬ (y ≤ x) → AW p l e R s m args below meth c Q cells slots G nL (pc + 3) lv st sh ν σ) : AW p l e R s m args below meth c Q cells slots G nL pc lv (.int y :: .int x :: st) sh ν σ :=
  fun H locs ls hH hS hl => lv_icmp_ge h.x h.b d ht (fun q => kt q H locs ls hH hS hl) (fun q => kf q H locs ls hH hS hl)
theorem st_icmp_gt (h : Cx p s m args meth c G cc nL own) {x y : Int32} {off : Int} {t : Nat} (d : decode cc pc = .ok (.if_icmp .gt off, 3)) (ht : (pc : Int) + off = (t : Int)) (kt : y < x → AW p l e R s m args below meth c Q cells slots G nL t lv st sh ν σ) (kf : ¬ (y < x) → AW p l e R s m args below meth c Q cells slots G nL (pc + 3) lv st sh ν σ) : AW p l e R s m args below meth c Q cells slots G nL pc lv (.int y :: .int x :: st) sh ν σ :=
  fun H locs ls hH hS hl => lv_icmp_gt h.x h.b d ht (fun q => kt q H locs ls hH hS hl) (fun q => kf q H locs ls hH hS hl)
theorem st_icmp_le (h : Cx p s m args meth c G cc nL own) {x y : Int32} {off : Int} {t : Nat} (d : decode cc pc = .ok (.if_icmp .le off, 3)) (ht : (pc : Int) + off = (t : Int)) (kt : x ≤ y → AW p l e R s m args below meth c Q cells slots G nL t lv st sh ν σ) (kf : ¬ (x ≤ y) → AW p l e R s m args below meth c Q cells slots G nL (pc + 3) lv st sh ν σ) : AW p l e R s m args below meth c Q cells slots G nL pc lv (.int y :: .int x :: st) sh ν σ :=
  fun H locs ls hH hS hl => lv_icmp_le h.x h.b d ht (fun q => kt q H locs ls hH hS hl) (fun q => kf q H locs ls hH hS hl)
theorem st_if_eq (h : Cx p s m args meth c G cc nL own) {x : Int32} {off : Int} {t : Nat} (d : decode cc pc = .ok (.ifCond .eq off, 3)) (ht : (pc : Int) + off = (t : Int)) (kt : x = 0 → AW p l e R s m args below meth c Q cells slots G nL t lv st sh ν σ) (kf : ¬ (x = 0) → AW p l e R s m args below meth c Q cells slots G nL (pc + 3) lv st sh ν σ) : AW p l e R s m args below meth c Q cells slots G nL pc lv (.int x :: st) sh ν σ :=
  fun H locs ls hH hS hl => lv_if_eq h.x h.b d ht (fun q => kt q H locs ls hH hS hl) (fun q => kf q H locs ls hH hS hl)
theorem st_if_ne (h : Cx p s m args meth c G cc nL own) {x : Int32} {off : Int} {t : Nat} (d : decode cc pc = .ok (.ifCond .ne off, 3)) (ht : (pc : Int) + off = (t : Int)) (kt : ¬ x = 0 → AW p l e R s m args below meth c Q cells slots G nL t lv st sh ν σ) (kf : x = 0 → AW p l e R s m args below meth c Q cells slots G nL (pc + 3) lv st sh ν σ) : AW p l e R s m args below meth c Q cells slots G nL pc lv (.int x :: st) sh ν σ :=
  fun H locs ls hH hS hl => lv_if_ne h.x h.b d ht (fun q => kt q H locs ls hH hS hl) (fun q => kf q H locs ls hH hS hl)
theorem st_if_lt (h : Cx p s m args meth c G cc nL own) {x : Int32} {off : Int} {t : Nat} (d : decode cc pc = .ok (.ifCond .lt off, 3)) (ht : (pc : Int) + off = (t : Int)) (kt : x < 0 → AW p l e R s m args below meth c Q cells slots G nL t lv st sh ν σ) (kf : ¬ (x < 0) → AW p l e R s m args below meth c Q cells slots G nL (pc + 3) lv st sh ν σ) : AW p l e R s m args below meth c Q cells slots G nL pc lv (.int x :: st) sh ν σ :=
  fun H locs ls hH hS hl => lv_if_lt h.x h.b d ht (fun q => kt q H locs ls hH hS hl) (fun q => kf q H locs ls hH hS hl)
theorem st_if_ge (h : Cx p s m args meth c G cc nL own) {x : Int32} {off : Int} {t : Nat} (d : decode cc pc = .ok (.ifCond .ge off, 3)) (ht : (pc : Int) + off = (t : Int)) (kt : 0 ≤ x → AW p l e R s m args below meth c Q cells slots G nL t lv st sh ν σ) (kf : ¬ (0 ≤ x) → AW p l e R s m args below meth c Q cells slots G nL (pc + 3) lv st sh ν σ) : AW p l e R s m args below meth c Q cells slots G nL pc lv (.int x :: st) sh ν σ :=
  fun H locs ls hH hS hl => lv_if_ge h.x h.b d ht (fun q => kt q H locs ls hH hS hl) (fun q => kf q H locs ls hH hS hl)
theorem st_if_gt (h : Cx p s m args meth c G cc nL own) {x : Int32} {off : Int} {t : Nat} (d : decode cc pc = .ok (.ifCond .gt off, 3)) (ht : (pc : Int) + off = (t : Int)) (kt : 0 < x → AW p l e R s m args below meth c Q cells slots G nL t lv st sh ν σ) (kf : ¬ (0 < x) → AW p l e R s m args below meth c Q cells slots G nL (pc + 3) lv st sh ν σ) : AW p l e R s m args below meth c Q cells slots G nL pc lv (.int x :: st) sh ν σ :=
  fun H locs ls hH hS hl => lv_if_gt h.x h.b d ht (fun q => kt q H locs ls hH hS hl) (fun q => kf q H locs ls hH hS hl)
theorem st_if_le (h : Cx p s m args meth c G cc nL own) {x : Int32} {off : Int} {t : Nat} (d : decode cc pc = .ok (.ifCond .le off, 3)) (ht : (pc : Int) + off = (t : Int)) (kt : x ≤ 0 → AW p l e R s m args below meth c Q cells slots G nL t lv st sh ν σ) (kf : ¬ (x ≤ 0) → AW p l e R s m args below meth c Q cells slots G nL (pc + 3) lv st sh ν σ) : AW p l e R s m args below meth c Q cells slots G nL pc lv (.int x :: st) sh ν σ :=
  fun H locs ls hH hS hl => lv_if_le h.x h.b d ht (fun q => kt q H locs ls hH hS hl) (fun q => kf q H locs ls hH hS hl)
theorem st_ifnonnull (h : Cx p s m args meth c G cc nL own) {a : Nat} {off : Int} {t : Nat} (d : decode cc pc = .ok (.ifnonnull off, 3)) (ht : (pc : Int) + off = (t : Int)) (k : AW p l e R s m args below meth c Q cells slots G nL (t) lv (st) sh ν σ) : AW p l e R s m args below meth c Q cells slots G nL pc lv (.ref a :: st) sh ν σ :=
  fun H locs ls hH hS hl => lv_ifnonnull h.x h.b d ht (k H locs ls hH hS hl)
theorem st_ifnonnullN (h : Cx p s m args meth c G cc nL own) {off : Int} (d : decode cc pc = .ok (.ifnonnull off, 3)) (k : AW p l e R s m args below meth c Q cells slots G nL (pc + 3) lv (st) sh ν σ) : AW p l e R s m args below meth c Q cells slots G nL pc lv (.null :: st) sh ν σ :=
  fun H locs ls hH hS hl => lv_ifnonnullN h.x h.b d (k H locs ls hH hS hl)
theorem st_tableIn (h : Cx p s m args meth c G cc nL own) {dflt lo hi : Int} {offs : Array Int} {len : Nat} {x : Int32} {off : Int} {t : Nat} (d : decode cc pc = .ok (.tableswitch dflt lo hi offs, len)) (h1 : ¬ x.toInt < lo) (h2 : ¬ hi < x.toInt) (ho : offs[(x.toInt - lo).toNat]? = some off) (ht : (pc : Int) + off = (t : Int)) (k : AW p l e R s m args below meth c Q cells slots G nL t lv st sh ν σ) : AW p l e R s m args below meth c Q cells slots G nL pc lv (.int x :: st) sh ν σ :=
  fun H locs ls hH hS hl => lv_tableIn h.x h.b d h1 h2 ho ht (k H locs ls hH hS hl)
theorem st_tableOut (h : Cx p s m args meth c G cc nL own) {dflt lo hi : Int} {offs : Array Int} {len : Nat} {x : Int32} {t : Nat} (d : decode cc pc = .ok (.tableswitch dflt lo hi offs, len)) (h1 : x.toInt < lo ∨ hi < x.toInt) (ht : (pc : Int) + dflt = (t : Int)) (k : AW p l e R s m args below meth c Q cells slots G nL t lv st sh ν σ) : AW p l e R s m args below meth c Q cells slots G nL pc lv (.int x :: st) sh ν σ :=
  fun H locs ls hH hS hl => lv_tableOut h.x h.b d h1 ht (k H locs ls hH hS hl)
theorem st_eq {pc' : Nat} {lv' : List (Option Value)} {st' : List Value} {σ' : Sto} (k : AW p l e R s m args below meth c Q cells slots G nL pc' lv' st' sh ν σ') (h1 : pc' = pc) (h2 : lv' = lv) (h3 : st' = st) (h4 : σ' = σ) : AW p l e R s m args below meth c Q cells slots G nL pc lv st sh ν σ := by
  subst h1; subst h2; subst h3; subst h4; exact k
theorem lg_istn (h : Cx p s m args meth c G cc nL own) {n : Fin 4} {i : Nat} {x : Int32} (d : decode cc pc = .ok (.istore_n n, 1)) (hi : (n : Nat) = i) (hn : i < nL) (hp : okp lv i = true) (k : AW p l e R s m args below meth c Q cells slots G nL (pc + 1) (lv.set i (some (.int x))) st sh ν σ) : AW p l e R s m args below meth c Q cells slots G nL pc lv (.int x :: st) sh ν σ :=
  fun H locs ls hH hS hl => lv_istore_n h.x h.b d hi hl hn rfl (fun ls' h' => k H locs ls' hH hS (lh_set (v := .int x) hp h'))
theorem lg_ist (h : Cx p s m args meth c G cc nL own) {i : Nat} {x : Int32} (d : decode cc pc = .ok (.istore i, 2)) (hn : i < nL) (hp : okp lv i = true) (k : AW p l e R s m args below meth c Q cells slots G nL (pc + 2) (lv.set i (some (.int x))) st sh ν σ) : AW p l e R s m args below meth c Q cells slots G nL pc lv (.int x :: st) sh ν σ :=
  fun H locs ls hH hS hl => lv_istore h.x h.b d hl hn rfl (fun ls' h' => k H locs ls' hH hS (lh_set (v := .int x) hp h'))
theorem lg_astn (h : Cx p s m args meth c G cc nL own) {n : Fin 4} {i : Nat} {x : Nat} (d : decode cc pc = .ok (.astore_n n, 1)) (hi : (n : Nat) = i) (hn : i < nL) (hp : okp lv i = true) (k : AW p l e R s m args below meth c Q cells slots G nL (pc + 1) (lv.set i (some (.ref x))) st sh ν σ) : AW p l e R s m args below meth c Q cells slots G nL pc lv (.ref x :: st) sh ν σ :=
  fun H locs ls hH hS hl => lv_astore_n h.x h.b d hi hl hn rfl (fun ls' h' => k H locs ls' hH hS (lh_set (v := .ref x) hp h'))
theorem lg_ast (h : Cx p s m args meth c G cc nL own) {i : Nat} {x : Nat} (d : decode cc pc = .ok (.astore i, 2)) (hn : i < nL) (hp : okp lv i = true) (k : AW p l e R s m args below meth c Q cells slots G nL (pc + 2) (lv.set i (some (.ref x))) st sh ν σ) : AW p l e R s m args below meth c Q cells slots G nL pc lv (.ref x :: st) sh ν σ :=
  fun H locs ls hH hS hl => lv_astore h.x h.b d hl hn rfl (fun ls' h' => k H locs ls' hH hS (lh_set (v := .ref x) hp h'))
theorem lg_lstn (h : Cx p s m args meth c G cc nL own) {n : Fin 4} {i : Nat} {x : Int64} (d : decode cc pc = .ok (.lstore_n n, 1)) (hi : (n : Nat) = i) (hn : i + 1 < nL) (hp : okp lv i = true) (k : AW p l e R s m args below meth c Q cells slots G nL (pc + 1) ((lv.set i (some (.long x))).set (i + 1) none) st sh ν σ) : AW p l e R s m args below meth c Q cells slots G nL pc lv (.long x :: st) sh ν σ :=
  fun H locs ls hH hS hl => lv_lstore_n h.x h.b d hi hl hn rfl (fun ls' h' => k H locs ls' hH hS (lh_setL (v := .long x) hp h'))
theorem lg_lst (h : Cx p s m args meth c G cc nL own) {i : Nat} {x : Int64} (d : decode cc pc = .ok (.lstore i, 2)) (hn : i + 1 < nL) (hp : okp lv i = true) (k : AW p l e R s m args below meth c Q cells slots G nL (pc + 2) ((lv.set i (some (.long x))).set (i + 1) none) st sh ν σ) : AW p l e R s m args below meth c Q cells slots G nL pc lv (.long x :: st) sh ν σ :=
  fun H locs ls hH hS hl => lv_lstore h.x h.b d hl hn rfl (fun ls' h' => k H locs ls' hH hS (lh_setL (v := .long x) hp h'))
theorem lvp_key {G : Gv} {lv : List (Option Value)} {i : Nat} {v : Value} (h : lv[i]? = some (some v)) : ∃ k : Nat, (lvp G 0 lv)[k]? = some (i, cv G v) := by
  have h1 := lvp_mem (G := G) (i := 0) h
  rw [Nat.zero_add] at h1
  exact List.getElem?_of_mem h1
theorem lg_iinc (h : Cx p s m args meth c G cc nL own) {i : Nat} {n : Int} {x v : Int32} (d : decode cc pc = .ok (.iinc i n, 3)) (hx : lv[i]? = some (some (.int x))) (hv : x + Int32.ofInt n = v) (hn : i < nL) (hp : okp lv i = true) (k : AW p l e R s m args below meth c Q cells slots G nL (pc + 3) (lv.set i (some (.int v))) st sh ν σ) : AW p l e R s m args below meth c Q cells slots G nL pc lv st sh ν σ := by
  intro H locs ls hH hS hl
  obtain ⟨q, hq⟩ := lvp_key (G := G) hx
  exact lv_iinc h.x h.b d hl hq hv hn rfl (fun ls' h' => k H locs ls' hH hS (lh_set (v := .int v) hp h'))
theorem st_iload_0 (h : Cx p s m args meth c G cc nL own) {lr : List (Option Value)} {x : Int32} (d : decode cc pc = .ok (.iload_n 0, 1)) (k : AW p l e R s m args below meth c Q cells slots G nL (pc + 1) (some (.int x) :: lr) (.int x :: st) sh ν σ) : AW p l e R s m args below meth c Q cells slots G nL pc (some (.int x) :: lr) (st) sh ν σ :=
  fun H locs ls hH hS hl => lv_iload_n h.x h.b d rfl (lh_at (k := 0) (v := .int x) hl rfl) (k H locs ls hH hS hl)
theorem st_aload_0 (h : Cx p s m args meth c G cc nL own) {lr : List (Option Value)} {a : Nat} (d : decode cc pc = .ok (.aload_n 0, 1)) (k : AW p l e R s m args below meth c Q cells slots G nL (pc + 1) (some (.ref a) :: lr) (.ref a :: st) sh ν σ) : AW p l e R s m args below meth c Q cells slots G nL pc (some (.ref a) :: lr) (st) sh ν σ :=
  fun H locs ls hH hS hl => lv_aload_n h.x h.b d rfl (lh_at (k := 0) (v := .ref a) hl rfl) (k H locs ls hH hS hl)
theorem st_tload_0 (h : Cx p s m args meth c G cc nL own) {lr : List (Option Value)} {a : Nat} (d : decode cc pc = .ok (.aload_n 0, 1)) (k : AW p l e R s m args below meth c Q cells slots G nL (pc + 1) (some (.retAddr a) :: lr) (.retAddr a :: st) sh ν σ) : AW p l e R s m args below meth c Q cells slots G nL pc (some (.retAddr a) :: lr) (st) sh ν σ :=
  fun H locs ls hH hS hl => lv_aload_n h.x h.b d rfl (lh_at (k := 0) (v := .retAddr a) hl rfl) (k H locs ls hH hS hl)
theorem st_zload_0 (h : Cx p s m args meth c G cc nL own) {lr : List (Option Value)}  (d : decode cc pc = .ok (.aload_n 0, 1)) (k : AW p l e R s m args below meth c Q cells slots G nL (pc + 1) (some .null :: lr) (.null :: st) sh ν σ) : AW p l e R s m args below meth c Q cells slots G nL pc (some .null :: lr) (st) sh ν σ :=
  fun H locs ls hH hS hl => lv_aload_nN h.x h.b d rfl (lh_at (k := 0) (v := .null) hl rfl) (k H locs ls hH hS hl)
theorem st_lload_0 (h : Cx p s m args meth c G cc nL own) {lr : List (Option Value)} {x : Int64} (d : decode cc pc = .ok (.lload_n 0, 1)) (k : AW p l e R s m args below meth c Q cells slots G nL (pc + 1) (some (.long x) :: lr) (.long x :: st) sh ν σ) : AW p l e R s m args below meth c Q cells slots G nL pc (some (.long x) :: lr) (st) sh ν σ :=
  fun H locs ls hH hS hl => lv_lload_n h.x h.b d rfl (lh_at (k := 0) (v := .long x) hl rfl) (k H locs ls hH hS hl)
theorem st_istore_0 (h : Cx p s m args meth c G cc nL own) {w0 : Option Value} {lr : List (Option Value)} {x : Int32} (d : decode cc pc = .ok (.istore_n 0, 1)) (k : AW p l e R s m args below meth c Q cells slots G nL (pc + 1) (some (.int x) :: lr) st sh ν σ) (hl : 0 < nL := by decide)  : AW p l e R s m args below meth c Q cells slots G nL pc (w0 :: lr) (.int x :: st) sh ν σ :=
  lg_istn h d rfl hl rfl k
theorem st_astore_0 (h : Cx p s m args meth c G cc nL own) {w0 : Option Value} {lr : List (Option Value)} {a : Nat} (d : decode cc pc = .ok (.astore_n 0, 1)) (k : AW p l e R s m args below meth c Q cells slots G nL (pc + 1) (some (.ref a) :: lr) st sh ν σ) (hl : 0 < nL := by decide)  : AW p l e R s m args below meth c Q cells slots G nL pc (w0 :: lr) (.ref a :: st) sh ν σ :=
  lg_astn h d rfl hl rfl k
theorem st_lstore_0 (h : Cx p s m args meth c G cc nL own) {w0 w1 : Option Value} {lr : List (Option Value)} {x : Int64} (d : decode cc pc = .ok (.lstore_n 0, 1)) (k : AW p l e R s m args below meth c Q cells slots G nL (pc + 1) (some (.long x) :: none :: lr) st sh ν σ) (hl : 0 + 1 < nL := by decide)  : AW p l e R s m args below meth c Q cells slots G nL pc (w0 :: w1 :: lr) (.long x :: st) sh ν σ :=
  lg_lstn h d rfl hl rfl k
theorem st_iinc_0 (h : Cx p s m args meth c G cc nL own) {lr : List (Option Value)} {x y : Int32} {n : Int} (d : decode cc pc = .ok (.iinc 0 n, 3)) (hv : x + Int32.ofInt n = y) (k : AW p l e R s m args below meth c Q cells slots G nL (pc + 3) (some (.int y) :: lr) st sh ν σ) (hl : 0 < nL := by decide)  : AW p l e R s m args below meth c Q cells slots G nL pc (some (.int x) :: lr) st sh ν σ :=
  lg_iinc h d rfl hv hl rfl k
theorem st_iload_1 (h : Cx p s m args meth c G cc nL own) {w0 : Option Value} {lr : List (Option Value)} {x : Int32} (d : decode cc pc = .ok (.iload_n 1, 1)) (k : AW p l e R s m args below meth c Q cells slots G nL (pc + 1) (w0 :: some (.int x) :: lr) (.int x :: st) sh ν σ) : AW p l e R s m args below meth c Q cells slots G nL pc (w0 :: some (.int x) :: lr) (st) sh ν σ :=
  fun H locs ls hH hS hl => lv_iload_n h.x h.b d rfl (lh_at (k := 1) (v := .int x) hl rfl) (k H locs ls hH hS hl)
theorem st_aload_1 (h : Cx p s m args meth c G cc nL own) {w0 : Option Value} {lr : List (Option Value)} {a : Nat} (d : decode cc pc = .ok (.aload_n 1, 1)) (k : AW p l e R s m args below meth c Q cells slots G nL (pc + 1) (w0 :: some (.ref a) :: lr) (.ref a :: st) sh ν σ) : AW p l e R s m args below meth c Q cells slots G nL pc (w0 :: some (.ref a) :: lr) (st) sh ν σ :=
  fun H locs ls hH hS hl => lv_aload_n h.x h.b d rfl (lh_at (k := 1) (v := .ref a) hl rfl) (k H locs ls hH hS hl)
theorem st_tload_1 (h : Cx p s m args meth c G cc nL own) {w0 : Option Value} {lr : List (Option Value)} {a : Nat} (d : decode cc pc = .ok (.aload_n 1, 1)) (k : AW p l e R s m args below meth c Q cells slots G nL (pc + 1) (w0 :: some (.retAddr a) :: lr) (.retAddr a :: st) sh ν σ) : AW p l e R s m args below meth c Q cells slots G nL pc (w0 :: some (.retAddr a) :: lr) (st) sh ν σ :=
  fun H locs ls hH hS hl => lv_aload_n h.x h.b d rfl (lh_at (k := 1) (v := .retAddr a) hl rfl) (k H locs ls hH hS hl)
theorem st_zload_1 (h : Cx p s m args meth c G cc nL own) {w0 : Option Value} {lr : List (Option Value)}  (d : decode cc pc = .ok (.aload_n 1, 1)) (k : AW p l e R s m args below meth c Q cells slots G nL (pc + 1) (w0 :: some .null :: lr) (.null :: st) sh ν σ) : AW p l e R s m args below meth c Q cells slots G nL pc (w0 :: some .null :: lr) (st) sh ν σ :=
  fun H locs ls hH hS hl => lv_aload_nN h.x h.b d rfl (lh_at (k := 1) (v := .null) hl rfl) (k H locs ls hH hS hl)
theorem st_lload_1 (h : Cx p s m args meth c G cc nL own) {w0 : Option Value} {lr : List (Option Value)} {x : Int64} (d : decode cc pc = .ok (.lload_n 1, 1)) (k : AW p l e R s m args below meth c Q cells slots G nL (pc + 1) (w0 :: some (.long x) :: lr) (.long x :: st) sh ν σ) : AW p l e R s m args below meth c Q cells slots G nL pc (w0 :: some (.long x) :: lr) (st) sh ν σ :=
  fun H locs ls hH hS hl => lv_lload_n h.x h.b d rfl (lh_at (k := 1) (v := .long x) hl rfl) (k H locs ls hH hS hl)
theorem st_istore_1 (h : Cx p s m args meth c G cc nL own) {w0 w1 : Option Value} {lr : List (Option Value)} {x : Int32} (d : decode cc pc = .ok (.istore_n 1, 1)) (k : AW p l e R s m args below meth c Q cells slots G nL (pc + 1) (w0 :: some (.int x) :: lr) st sh ν σ) (hl : 1 < nL := by decide) (hp : okp [w0] 1 = true := by rfl) : AW p l e R s m args below meth c Q cells slots G nL pc (w0 :: w1 :: lr) (.int x :: st) sh ν σ :=
  lg_istn h d rfl hl hp k
theorem st_astore_1 (h : Cx p s m args meth c G cc nL own) {w0 w1 : Option Value} {lr : List (Option Value)} {a : Nat} (d : decode cc pc = .ok (.astore_n 1, 1)) (k : AW p l e R s m args below meth c Q cells slots G nL (pc + 1) (w0 :: some (.ref a) :: lr) st sh ν σ) (hl : 1 < nL := by decide) (hp : okp [w0] 1 = true := by rfl) : AW p l e R s m args below meth c Q cells slots G nL pc (w0 :: w1 :: lr) (.ref a :: st) sh ν σ :=
  lg_astn h d rfl hl hp k
theorem st_lstore_1 (h : Cx p s m args meth c G cc nL own) {w0 w1 w2 : Option Value} {lr : List (Option Value)} {x : Int64} (d : decode cc pc = .ok (.lstore_n 1, 1)) (k : AW p l e R s m args below meth c Q cells slots G nL (pc + 1) (w0 :: some (.long x) :: none :: lr) st sh ν σ) (hl : 1 + 1 < nL := by decide) (hp : okp [w0] 1 = true := by rfl) : AW p l e R s m args below meth c Q cells slots G nL pc (w0 :: w1 :: w2 :: lr) (.long x :: st) sh ν σ :=
  lg_lstn h d rfl hl hp k
theorem st_iinc_1 (h : Cx p s m args meth c G cc nL own) {w0 : Option Value} {lr : List (Option Value)} {x y : Int32} {n : Int} (d : decode cc pc = .ok (.iinc 1 n, 3)) (hv : x + Int32.ofInt n = y) (k : AW p l e R s m args below meth c Q cells slots G nL (pc + 3) (w0 :: some (.int y) :: lr) st sh ν σ) (hl : 1 < nL := by decide) (hp : okp [w0] 1 = true := by rfl) : AW p l e R s m args below meth c Q cells slots G nL pc (w0 :: some (.int x) :: lr) st sh ν σ :=
  lg_iinc h d rfl hv hl hp k
theorem st_iload_2 (h : Cx p s m args meth c G cc nL own) {w0 w1 : Option Value} {lr : List (Option Value)} {x : Int32} (d : decode cc pc = .ok (.iload_n 2, 1)) (k : AW p l e R s m args below meth c Q cells slots G nL (pc + 1) (w0 :: w1 :: some (.int x) :: lr) (.int x :: st) sh ν σ) : AW p l e R s m args below meth c Q cells slots G nL pc (w0 :: w1 :: some (.int x) :: lr) (st) sh ν σ :=
  fun H locs ls hH hS hl => lv_iload_n h.x h.b d rfl (lh_at (k := 2) (v := .int x) hl rfl) (k H locs ls hH hS hl)
theorem st_aload_2 (h : Cx p s m args meth c G cc nL own) {w0 w1 : Option Value} {lr : List (Option Value)} {a : Nat} (d : decode cc pc = .ok (.aload_n 2, 1)) (k : AW p l e R s m args below meth c Q cells slots G nL (pc + 1) (w0 :: w1 :: some (.ref a) :: lr) (.ref a :: st) sh ν σ) : AW p l e R s m args below meth c Q cells slots G nL pc (w0 :: w1 :: some (.ref a) :: lr) (st) sh ν σ :=
  fun H locs ls hH hS hl => lv_aload_n h.x h.b d rfl (lh_at (k := 2) (v := .ref a) hl rfl) (k H locs ls hH hS hl)
theorem st_tload_2 (h : Cx p s m args meth c G cc nL own) {w0 w1 : Option Value} {lr : List (Option Value)} {a : Nat} (d : decode cc pc = .ok (.aload_n 2, 1)) (k : AW p l e R s m args below meth c Q cells slots G nL (pc + 1) (w0 :: w1 :: some (.retAddr a) :: lr) (.retAddr a :: st) sh ν σ) : AW p l e R s m args below meth c Q cells slots G nL pc (w0 :: w1 :: some (.retAddr a) :: lr) (st) sh ν σ :=
  fun H locs ls hH hS hl => lv_aload_n h.x h.b d rfl (lh_at (k := 2) (v := .retAddr a) hl rfl) (k H locs ls hH hS hl)
theorem st_zload_2 (h : Cx p s m args meth c G cc nL own) {w0 w1 : Option Value} {lr : List (Option Value)}  (d : decode cc pc = .ok (.aload_n 2, 1)) (k : AW p l e R s m args below meth c Q cells slots G nL (pc + 1) (w0 :: w1 :: some .null :: lr) (.null :: st) sh ν σ) : AW p l e R s m args below meth c Q cells slots G nL pc (w0 :: w1 :: some .null :: lr) (st) sh ν σ :=
  fun H locs ls hH hS hl => lv_aload_nN h.x h.b d rfl (lh_at (k := 2) (v := .null) hl rfl) (k H locs ls hH hS hl)
theorem st_lload_2 (h : Cx p s m args meth c G cc nL own) {w0 w1 : Option Value} {lr : List (Option Value)} {x : Int64} (d : decode cc pc = .ok (.lload_n 2, 1)) (k : AW p l e R s m args below meth c Q cells slots G nL (pc + 1) (w0 :: w1 :: some (.long x) :: lr) (.long x :: st) sh ν σ) : AW p l e R s m args below meth c Q cells slots G nL pc (w0 :: w1 :: some (.long x) :: lr) (st) sh ν σ :=
  fun H locs ls hH hS hl => lv_lload_n h.x h.b d rfl (lh_at (k := 2) (v := .long x) hl rfl) (k H locs ls hH hS hl)
theorem st_istore_2 (h : Cx p s m args meth c G cc nL own) {w0 w1 w2 : Option Value} {lr : List (Option Value)} {x : Int32} (d : decode cc pc = .ok (.istore_n 2, 1)) (k : AW p l e R s m args below meth c Q cells slots G nL (pc + 1) (w0 :: w1 :: some (.int x) :: lr) st sh ν σ) (hl : 2 < nL := by decide) (hp : okp [w1] 1 = true := by rfl) : AW p l e R s m args below meth c Q cells slots G nL pc (w0 :: w1 :: w2 :: lr) (.int x :: st) sh ν σ :=
  lg_istn h d rfl hl hp k
theorem st_astore_2 (h : Cx p s m args meth c G cc nL own) {w0 w1 w2 : Option Value} {lr : List (Option Value)} {a : Nat} (d : decode cc pc = .ok (.astore_n 2, 1)) (k : AW p l e R s m args below meth c Q cells slots G nL (pc + 1) (w0 :: w1 :: some (.ref a) :: lr) st sh ν σ) (hl : 2 < nL := by decide) (hp : okp [w1] 1 = true := by rfl) : AW p l e R s m args below meth c Q cells slots G nL pc (w0 :: w1 :: w2 :: lr) (.ref a :: st) sh ν σ :=
  lg_astn h d rfl hl hp k
theorem st_lstore_2 (h : Cx p s m args meth c G cc nL own) {w0 w1 w2 w3 : Option Value} {lr : List (Option Value)} {x : Int64} (d : decode cc pc = .ok (.lstore_n 2, 1)) (k : AW p l e R s m args below meth c Q cells slots G nL (pc + 1) (w0 :: w1 :: some (.long x) :: none :: lr) st sh ν σ) (hl : 2 + 1 < nL := by decide) (hp : okp [w1] 1 = true := by rfl) : AW p l e R s m args below meth c Q cells slots G nL pc (w0 :: w1 :: w2 :: w3 :: lr) (.long x :: st) sh ν σ :=
  lg_lstn h d rfl hl hp k
theorem st_iinc_2 (h : Cx p s m args meth c G cc nL own) {w0 w1 : Option Value} {lr : List (Option Value)} {x y : Int32} {n : Int} (d : decode cc pc = .ok (.iinc 2 n, 3)) (hv : x + Int32.ofInt n = y) (k : AW p l e R s m args below meth c Q cells slots G nL (pc + 3) (w0 :: w1 :: some (.int y) :: lr) st sh ν σ) (hl : 2 < nL := by decide) (hp : okp [w1] 1 = true := by rfl) : AW p l e R s m args below meth c Q cells slots G nL pc (w0 :: w1 :: some (.int x) :: lr) st sh ν σ :=
  lg_iinc h d rfl hv hl hp k
theorem st_iload_3 (h : Cx p s m args meth c G cc nL own) {w0 w1 w2 : Option Value} {lr : List (Option Value)} {x : Int32} (d : decode cc pc = .ok (.iload_n 3, 1)) (k : AW p l e R s m args below meth c Q cells slots G nL (pc + 1) (w0 :: w1 :: w2 :: some (.int x) :: lr) (.int x :: st) sh ν σ) : AW p l e R s m args below meth c Q cells slots G nL pc (w0 :: w1 :: w2 :: some (.int x) :: lr) (st) sh ν σ :=
  fun H locs ls hH hS hl => lv_iload_n h.x h.b d rfl (lh_at (k := 3) (v := .int x) hl rfl) (k H locs ls hH hS hl)
theorem st_aload_3 (h : Cx p s m args meth c G cc nL own) {w0 w1 w2 : Option Value} {lr : List (Option Value)} {a : Nat} (d : decode cc pc = .ok (.aload_n 3, 1)) (k : AW p l e R s m args below meth c Q cells slots G nL (pc + 1) (w0 :: w1 :: w2 :: some (.ref a) :: lr) (.ref a :: st) sh ν σ) : AW p l e R s m args below meth c Q cells slots G nL pc (w0 :: w1 :: w2 :: some (.ref a) :: lr) (st) sh ν σ :=
  fun H locs ls hH hS hl => lv_aload_n h.x h.b d rfl (lh_at (k := 3) (v := .ref a) hl rfl) (k H locs ls hH hS hl)
theorem st_tload_3 (h : Cx p s m args meth c G cc nL own) {w0 w1 w2 : Option Value} {lr : List (Option Value)} {a : Nat} (d : decode cc pc = .ok (.aload_n 3, 1)) (k : AW p l e R s m args below meth c Q cells slots G nL (pc + 1) (w0 :: w1 :: w2 :: some (.retAddr a) :: lr) (.retAddr a :: st) sh ν σ) : AW p l e R s m args below meth c Q cells slots G nL pc (w0 :: w1 :: w2 :: some (.retAddr a) :: lr) (st) sh ν σ :=
  fun H locs ls hH hS hl => lv_aload_n h.x h.b d rfl (lh_at (k := 3) (v := .retAddr a) hl rfl) (k H locs ls hH hS hl)
theorem st_zload_3 (h : Cx p s m args meth c G cc nL own) {w0 w1 w2 : Option Value} {lr : List (Option Value)}  (d : decode cc pc = .ok (.aload_n 3, 1)) (k : AW p l e R s m args below meth c Q cells slots G nL (pc + 1) (w0 :: w1 :: w2 :: some .null :: lr) (.null :: st) sh ν σ) : AW p l e R s m args below meth c Q cells slots G nL pc (w0 :: w1 :: w2 :: some .null :: lr) (st) sh ν σ :=
  fun H locs ls hH hS hl => lv_aload_nN h.x h.b d rfl (lh_at (k := 3) (v := .null) hl rfl) (k H locs ls hH hS hl)
theorem st_lload_3 (h : Cx p s m args meth c G cc nL own) {w0 w1 w2 : Option Value} {lr : List (Option Value)} {x : Int64} (d : decode cc pc = .ok (.lload_n 3, 1)) (k : AW p l e R s m args below meth c Q cells slots G nL (pc + 1) (w0 :: w1 :: w2 :: some (.long x) :: lr) (.long x :: st) sh ν σ) : AW p l e R s m args below meth c Q cells slots G nL pc (w0 :: w1 :: w2 :: some (.long x) :: lr) (st) sh ν σ :=
  fun H locs ls hH hS hl => lv_lload_n h.x h.b d rfl (lh_at (k := 3) (v := .long x) hl rfl) (k H locs ls hH hS hl)
theorem st_istore_3 (h : Cx p s m args meth c G cc nL own) {w0 w1 w2 w3 : Option Value} {lr : List (Option Value)} {x : Int32} (d : decode cc pc = .ok (.istore_n 3, 1)) (k : AW p l e R s m args below meth c Q cells slots G nL (pc + 1) (w0 :: w1 :: w2 :: some (.int x) :: lr) st sh ν σ) (hl : 3 < nL := by decide) (hp : okp [w2] 1 = true := by rfl) : AW p l e R s m args below meth c Q cells slots G nL pc (w0 :: w1 :: w2 :: w3 :: lr) (.int x :: st) sh ν σ :=
  lg_istn h d rfl hl hp k
theorem st_astore_3 (h : Cx p s m args meth c G cc nL own) {w0 w1 w2 w3 : Option Value} {lr : List (Option Value)} {a : Nat} (d : decode cc pc = .ok (.astore_n 3, 1)) (k : AW p l e R s m args below meth c Q cells slots G nL (pc + 1) (w0 :: w1 :: w2 :: some (.ref a) :: lr) st sh ν σ) (hl : 3 < nL := by decide) (hp : okp [w2] 1 = true := by rfl) : AW p l e R s m args below meth c Q cells slots G nL pc (w0 :: w1 :: w2 :: w3 :: lr) (.ref a :: st) sh ν σ :=
  lg_astn h d rfl hl hp k
theorem st_lstore_3 (h : Cx p s m args meth c G cc nL own) {w0 w1 w2 w3 w4 : Option Value} {lr : List (Option Value)} {x : Int64} (d : decode cc pc = .ok (.lstore_n 3, 1)) (k : AW p l e R s m args below meth c Q cells slots G nL (pc + 1) (w0 :: w1 :: w2 :: some (.long x) :: none :: lr) st sh ν σ) (hl : 3 + 1 < nL := by decide) (hp : okp [w2] 1 = true := by rfl) : AW p l e R s m args below meth c Q cells slots G nL pc (w0 :: w1 :: w2 :: w3 :: w4 :: lr) (.long x :: st) sh ν σ :=
  lg_lstn h d rfl hl hp k
theorem st_iinc_3 (h : Cx p s m args meth c G cc nL own) {w0 w1 w2 : Option Value} {lr : List (Option Value)} {x y : Int32} {n : Int} (d : decode cc pc = .ok (.iinc 3 n, 3)) (hv : x + Int32.ofInt n = y) (k : AW p l e R s m args below meth c Q cells slots G nL (pc + 3) (w0 :: w1 :: w2 :: some (.int y) :: lr) st sh ν σ) (hl : 3 < nL := by decide) (hp : okp [w2] 1 = true := by rfl) : AW p l e R s m args below meth c Q cells slots G nL pc (w0 :: w1 :: w2 :: some (.int x) :: lr) st sh ν σ :=
  lg_iinc h d rfl hv hl hp k
theorem st_iload_4 (h : Cx p s m args meth c G cc nL own) {w0 w1 w2 w3 : Option Value} {lr : List (Option Value)} {x : Int32} (d : decode cc pc = .ok (.iload 4, 2)) (k : AW p l e R s m args below meth c Q cells slots G nL (pc + 2) (w0 :: w1 :: w2 :: w3 :: some (.int x) :: lr) (.int x :: st) sh ν σ) : AW p l e R s m args below meth c Q cells slots G nL pc (w0 :: w1 :: w2 :: w3 :: some (.int x) :: lr) (st) sh ν σ :=
  fun H locs ls hH hS hl => lv_iload h.x h.b d (lh_at (k := 4) (v := .int x) hl rfl) (k H locs ls hH hS hl)
theorem st_aload_4 (h : Cx p s m args meth c G cc nL own) {w0 w1 w2 w3 : Option Value} {lr : List (Option Value)} {a : Nat} (d : decode cc pc = .ok (.aload 4, 2)) (k : AW p l e R s m args below meth c Q cells slots G nL (pc + 2) (w0 :: w1 :: w2 :: w3 :: some (.ref a) :: lr) (.ref a :: st) sh ν σ) : AW p l e R s m args below meth c Q cells slots G nL pc (w0 :: w1 :: w2 :: w3 :: some (.ref a) :: lr) (st) sh ν σ :=
  fun H locs ls hH hS hl => lv_aload h.x h.b d (lh_at (k := 4) (v := .ref a) hl rfl) (k H locs ls hH hS hl)
theorem st_tload_4 (h : Cx p s m args meth c G cc nL own) {w0 w1 w2 w3 : Option Value} {lr : List (Option Value)} {a : Nat} (d : decode cc pc = .ok (.aload 4, 2)) (k : AW p l e R s m args below meth c Q cells slots G nL (pc + 2) (w0 :: w1 :: w2 :: w3 :: some (.retAddr a) :: lr) (.retAddr a :: st) sh ν σ) : AW p l e R s m args below meth c Q cells slots G nL pc (w0 :: w1 :: w2 :: w3 :: some (.retAddr a) :: lr) (st) sh ν σ :=
  fun H locs ls hH hS hl => lv_aload h.x h.b d (lh_at (k := 4) (v := .retAddr a) hl rfl) (k H locs ls hH hS hl)
theorem st_zload_4 (h : Cx p s m args meth c G cc nL own) {w0 w1 w2 w3 : Option Value} {lr : List (Option Value)}  (d : decode cc pc = .ok (.aload 4, 2)) (k : AW p l e R s m args below meth c Q cells slots G nL (pc + 2) (w0 :: w1 :: w2 :: w3 :: some .null :: lr) (.null :: st) sh ν σ) : AW p l e R s m args below meth c Q cells slots G nL pc (w0 :: w1 :: w2 :: w3 :: some .null :: lr) (st) sh ν σ :=
  fun H locs ls hH hS hl => lv_aloadN h.x h.b d (lh_at (k := 4) (v := .null) hl rfl) (k H locs ls hH hS hl)
theorem st_lload_4 (h : Cx p s m args meth c G cc nL own) {w0 w1 w2 w3 : Option Value} {lr : List (Option Value)} {x : Int64} (d : decode cc pc = .ok (.lload 4, 2)) (k : AW p l e R s m args below meth c Q cells slots G nL (pc + 2) (w0 :: w1 :: w2 :: w3 :: some (.long x) :: lr) (.long x :: st) sh ν σ) : AW p l e R s m args below meth c Q cells slots G nL pc (w0 :: w1 :: w2 :: w3 :: some (.long x) :: lr) (st) sh ν σ :=
  fun H locs ls hH hS hl => lv_lload h.x h.b d (lh_at (k := 4) (v := .long x) hl rfl) (k H locs ls hH hS hl)
theorem st_istore_4 (h : Cx p s m args meth c G cc nL own) {w0 w1 w2 w3 w4 : Option Value} {lr : List (Option Value)} {x : Int32} (d : decode cc pc = .ok (.istore 4, 2)) (k : AW p l e R s m args below meth c Q cells slots G nL (pc + 2) (w0 :: w1 :: w2 :: w3 :: some (.int x) :: lr) st sh ν σ) (hl : 4 < nL := by decide) (hp : okp [w3] 1 = true := by rfl) : AW p l e R s m args below meth c Q cells slots G nL pc (w0 :: w1 :: w2 :: w3 :: w4 :: lr) (.int x :: st) sh ν σ :=
  lg_ist h d hl hp k
theorem st_astore_4 (h : Cx p s m args meth c G cc nL own) {w0 w1 w2 w3 w4 : Option Value} {lr : List (Option Value)} {a : Nat} (d : decode cc pc = .ok (.astore 4, 2)) (k : AW p l e R s m args below meth c Q cells slots G nL (pc + 2) (w0 :: w1 :: w2 :: w3 :: some (.ref a) :: lr) st sh ν σ) (hl : 4 < nL := by decide) (hp : okp [w3] 1 = true := by rfl) : AW p l e R s m args below meth c Q cells slots G nL pc (w0 :: w1 :: w2 :: w3 :: w4 :: lr) (.ref a :: st) sh ν σ :=
  lg_ast h d hl hp k
theorem st_lstore_4 (h : Cx p s m args meth c G cc nL own) {w0 w1 w2 w3 w4 w5 : Option Value} {lr : List (Option Value)} {x : Int64} (d : decode cc pc = .ok (.lstore 4, 2)) (k : AW p l e R s m args below meth c Q cells slots G nL (pc + 2) (w0 :: w1 :: w2 :: w3 :: some (.long x) :: none :: lr) st sh ν σ) (hl : 4 + 1 < nL := by decide) (hp : okp [w3] 1 = true := by rfl) : AW p l e R s m args below meth c Q cells slots G nL pc (w0 :: w1 :: w2 :: w3 :: w4 :: w5 :: lr) (.long x :: st) sh ν σ :=
  lg_lst h d hl hp k
theorem st_iinc_4 (h : Cx p s m args meth c G cc nL own) {w0 w1 w2 w3 : Option Value} {lr : List (Option Value)} {x y : Int32} {n : Int} (d : decode cc pc = .ok (.iinc 4 n, 3)) (hv : x + Int32.ofInt n = y) (k : AW p l e R s m args below meth c Q cells slots G nL (pc + 3) (w0 :: w1 :: w2 :: w3 :: some (.int y) :: lr) st sh ν σ) (hl : 4 < nL := by decide) (hp : okp [w3] 1 = true := by rfl) : AW p l e R s m args below meth c Q cells slots G nL pc (w0 :: w1 :: w2 :: w3 :: some (.int x) :: lr) st sh ν σ :=
  lg_iinc h d rfl hv hl hp k
theorem st_iload_5 (h : Cx p s m args meth c G cc nL own) {w0 w1 w2 w3 w4 : Option Value} {lr : List (Option Value)} {x : Int32} (d : decode cc pc = .ok (.iload 5, 2)) (k : AW p l e R s m args below meth c Q cells slots G nL (pc + 2) (w0 :: w1 :: w2 :: w3 :: w4 :: some (.int x) :: lr) (.int x :: st) sh ν σ) : AW p l e R s m args below meth c Q cells slots G nL pc (w0 :: w1 :: w2 :: w3 :: w4 :: some (.int x) :: lr) (st) sh ν σ :=
  fun H locs ls hH hS hl => lv_iload h.x h.b d (lh_at (k := 5) (v := .int x) hl rfl) (k H locs ls hH hS hl)
theorem st_aload_5 (h : Cx p s m args meth c G cc nL own) {w0 w1 w2 w3 w4 : Option Value} {lr : List (Option Value)} {a : Nat} (d : decode cc pc = .ok (.aload 5, 2)) (k : AW p l e R s m args below meth c Q cells slots G nL (pc + 2) (w0 :: w1 :: w2 :: w3 :: w4 :: some (.ref a) :: lr) (.ref a :: st) sh ν σ) : AW p l e R s m args below meth c Q cells slots G nL pc (w0 :: w1 :: w2 :: w3 :: w4 :: some (.ref a) :: lr) (st) sh ν σ :=
  fun H locs ls hH hS hl => lv_aload h.x h.b d (lh_at (k := 5) (v := .ref a) hl rfl) (k H locs ls hH hS hl)
theorem st_tload_5 (h : Cx p s m args meth c G cc nL own) {w0 w1 w2 w3 w4 : Option Value} {lr : List (Option Value)} {a : Nat} (d : decode cc pc = .ok (.aload 5, 2)) (k : AW p l e R s m args below meth c Q cells slots G nL (pc + 2) (w0 :: w1 :: w2 :: w3 :: w4 :: some (.retAddr a) :: lr) (.retAddr a :: st) sh ν σ) : AW p l e R s m args below meth c Q cells slots G nL pc (w0 :: w1 :: w2 :: w3 :: w4 :: some (.retAddr a) :: lr) (st) sh ν σ :=
  fun H locs ls hH hS hl => lv_aload h.x h.b d (lh_at (k := 5) (v := .retAddr a) hl rfl) (k H locs ls hH hS hl)
theorem st_zload_5 (h : Cx p s m args meth c G cc nL own) {w0 w1 w2 w3 w4 : Option Value} {lr : List (Option Value)}  (d : decode cc pc = .ok (.aload 5, 2)) (k : AW p l e R s m args below meth c Q cells slots G nL (pc + 2) (w0 :: w1 :: w2 :: w3 :: w4 :: some .null :: lr) (.null :: st) sh ν σ) : AW p l e R s m args below meth c Q cells slots G nL pc (w0 :: w1 :: w2 :: w3 :: w4 :: some .null :: lr) (st) sh ν σ :=
  fun H locs ls hH hS hl => lv_aloadN h.x h.b d (lh_at (k := 5) (v := .null) hl rfl) (k H locs ls hH hS hl)
theorem st_lload_5 (h : Cx p s m args meth c G cc nL own) {w0 w1 w2 w3 w4 : Option Value} {lr : List (Option Value)} {x : Int64} (d : decode cc pc = .ok (.lload 5, 2)) (k : AW p l e R s m args below meth c Q cells slots G nL (pc + 2) (w0 :: w1 :: w2 :: w3 :: w4 :: some (.long x) :: lr) (.long x :: st) sh ν σ) : AW p l e R s m args below meth c Q cells slots G nL pc (w0 :: w1 :: w2 :: w3 :: w4 :: some (.long x) :: lr) (st) sh ν σ :=
  fun H locs ls hH hS hl => lv_lload h.x h.b d (lh_at (k := 5) (v := .long x) hl rfl) (k H locs ls hH hS hl)
theorem st_istore_5 (h : Cx p s m args meth c G cc nL own) {w0 w1 w2 w3 w4 w5 : Option Value} {lr : List (Option Value)} {x : Int32} (d : decode cc pc = .ok (.istore 5, 2)) (k : AW p l e R s m args below meth c Q cells slots G nL (pc + 2) (w0 :: w1 :: w2 :: w3 :: w4 :: some (.int x) :: lr) st sh ν σ) (hl : 5 < nL := by decide) (hp : okp [w4] 1 = true := by rfl) : AW p l e R s m args below meth c Q cells slots G nL pc (w0 :: w1 :: w2 :: w3 :: w4 :: w5 :: lr) (.int x :: st) sh ν σ :=
  lg_ist h d hl hp k
theorem st_astore_5 (h : Cx p s m args meth c G cc nL own) {w0 w1 w2 w3 w4 w5 : Option Value} {lr : List (Option Value)} {a : Nat} (d : decode cc pc = .ok (.astore 5, 2)) (k : AW p l e R s m args below meth c Q cells slots G nL (pc + 2) (w0 :: w1 :: w2 :: w3 :: w4 :: some (.ref a) :: lr) st sh ν σ) (hl : 5 < nL := by decide) (hp : okp [w4] 1 = true := by rfl) : AW p l e R s m args below meth c Q cells slots G nL pc (w0 :: w1 :: w2 :: w3 :: w4 :: w5 :: lr) (.ref a :: st) sh ν σ :=
  lg_ast h d hl hp k
theorem st_lstore_5 (h : Cx p s m args meth c G cc nL own) {w0 w1 w2 w3 w4 w5 w6 : Option Value} {lr : List (Option Value)} {x : Int64} (d : decode cc pc = .ok (.lstore 5, 2)) (k : AW p l e R s m args below meth c Q cells slots G nL (pc + 2) (w0 :: w1 :: w2 :: w3 :: w4 :: some (.long x) :: none :: lr) st sh ν σ) (hl : 5 + 1 < nL := by decide) (hp : okp [w4] 1 = true := by rfl) : AW p l e R s m args below meth c Q cells slots G nL pc (w0 :: w1 :: w2 :: w3 :: w4 :: w5 :: w6 :: lr) (.long x :: st) sh ν σ :=
  lg_lst h d hl hp k
theorem st_iinc_5 (h : Cx p s m args meth c G cc nL own) {w0 w1 w2 w3 w4 : Option Value} {lr : List (Option Value)} {x y : Int32} {n : Int} (d : decode cc pc = .ok (.iinc 5 n, 3)) (hv : x + Int32.ofInt n = y) (k : AW p l e R s m args below meth c Q cells slots G nL (pc + 3) (w0 :: w1 :: w2 :: w3 :: w4 :: some (.int y) :: lr) st sh ν σ) (hl : 5 < nL := by decide) (hp : okp [w4] 1 = true := by rfl) : AW p l e R s m args below meth c Q cells slots G nL pc (w0 :: w1 :: w2 :: w3 :: w4 :: some (.int x) :: lr) st sh ν σ :=
  lg_iinc h d rfl hv hl hp k
theorem st_iload_6 (h : Cx p s m args meth c G cc nL own) {w0 w1 w2 w3 w4 w5 : Option Value} {lr : List (Option Value)} {x : Int32} (d : decode cc pc = .ok (.iload 6, 2)) (k : AW p l e R s m args below meth c Q cells slots G nL (pc + 2) (w0 :: w1 :: w2 :: w3 :: w4 :: w5 :: some (.int x) :: lr) (.int x :: st) sh ν σ) : AW p l e R s m args below meth c Q cells slots G nL pc (w0 :: w1 :: w2 :: w3 :: w4 :: w5 :: some (.int x) :: lr) (st) sh ν σ :=
  fun H locs ls hH hS hl => lv_iload h.x h.b d (lh_at (k := 6) (v := .int x) hl rfl) (k H locs ls hH hS hl)
theorem st_aload_6 (h : Cx p s m args meth c G cc nL own) {w0 w1 w2 w3 w4 w5 : Option Value} {lr : List (Option Value)} {a : Nat} (d : decode cc pc = .ok (.aload 6, 2)) (k : AW p l e R s m args below meth c Q cells slots G nL (pc + 2) (w0 :: w1 :: w2 :: w3 :: w4 :: w5 :: some (.ref a) :: lr) (.ref a :: st) sh ν σ) : AW p l e R s m args below meth c Q cells slots G nL pc (w0 :: w1 :: w2 :: w3 :: w4 :: w5 :: some (.ref a) :: lr) (st) sh ν σ :=
  fun H locs ls hH hS hl => lv_aload h.x h.b d (lh_at (k := 6) (v := .ref a) hl rfl) (k H locs ls hH hS hl)
theorem st_tload_6 (h : Cx p s m args meth c G cc nL own) {w0 w1 w2 w3 w4 w5 : Option Value} {lr : List (Option Value)} {a : Nat} (d : decode cc pc = .ok (.aload 6, 2)) (k : AW p l e R s m args below meth c Q cells slots G nL (pc + 2) (w0 :: w1 :: w2 :: w3 :: w4 :: w5 :: some (.retAddr a) :: lr) (.retAddr a :: st) sh ν σ) : AW p l e R s m args below meth c Q cells slots G nL pc (w0 :: w1 :: w2 :: w3 :: w4 :: w5 :: some (.retAddr a) :: lr) (st) sh ν σ :=
  fun H locs ls hH hS hl => lv_aload h.x h.b d (lh_at (k := 6) (v := .retAddr a) hl rfl) (k H locs ls hH hS hl)
theorem st_zload_6 (h : Cx p s m args meth c G cc nL own) {w0 w1 w2 w3 w4 w5 : Option Value} {lr : List (Option Value)}  (d : decode cc pc = .ok (.aload 6, 2)) (k : AW p l e R s m args below meth c Q cells slots G nL (pc + 2) (w0 :: w1 :: w2 :: w3 :: w4 :: w5 :: some .null :: lr) (.null :: st) sh ν σ) : AW p l e R s m args below meth c Q cells slots G nL pc (w0 :: w1 :: w2 :: w3 :: w4 :: w5 :: some .null :: lr) (st) sh ν σ :=
  fun H locs ls hH hS hl => lv_aloadN h.x h.b d (lh_at (k := 6) (v := .null) hl rfl) (k H locs ls hH hS hl)
theorem st_lload_6 (h : Cx p s m args meth c G cc nL own) {w0 w1 w2 w3 w4 w5 : Option Value} {lr : List (Option Value)} {x : Int64} (d : decode cc pc = .ok (.lload 6, 2)) (k : AW p l e R s m args below meth c Q cells slots G nL (pc + 2) (w0 :: w1 :: w2 :: w3 :: w4 :: w5 :: some (.long x) :: lr) (.long x :: st) sh ν σ) : AW p l e R s m args below meth c Q cells slots G nL pc (w0 :: w1 :: w2 :: w3 :: w4 :: w5 :: some (.long x) :: lr) (st) sh ν σ :=
  fun H locs ls hH hS hl => lv_lload h.x h.b d (lh_at (k := 6) (v := .long x) hl rfl) (k H locs ls hH hS hl)
theorem st_istore_6 (h : Cx p s m args meth c G cc nL own) {w0 w1 w2 w3 w4 w5 w6 : Option Value} {lr : List (Option Value)} {x : Int32} (d : decode cc pc = .ok (.istore 6, 2)) (k : AW p l e R s m args below meth c Q cells slots G nL (pc + 2) (w0 :: w1 :: w2 :: w3 :: w4 :: w5 :: some (.int x) :: lr) st sh ν σ) (hl : 6 < nL := by decide) (hp : okp [w5] 1 = true := by rfl) : AW p l e R s m args below meth c Q cells slots G nL pc (w0 :: w1 :: w2 :: w3 :: w4 :: w5 :: w6 :: lr) (.int x :: st) sh ν σ :=
  lg_ist h d hl hp k
theorem st_astore_6 (h : Cx p s m args meth c G cc nL own) {w0 w1 w2 w3 w4 w5 w6 : Option Value} {lr : List (Option Value)} {a : Nat} (d : decode cc pc = .ok (.astore 6, 2)) (k : AW p l e R s m args below meth c Q cells slots G nL (pc + 2) (w0 :: w1 :: w2 :: w3 :: w4 :: w5 :: some (.ref a) :: lr) st sh ν σ) (hl : 6 < nL := by decide) (hp : okp [w5] 1 = true := by rfl) : AW p l e R s m args below meth c Q cells slots G nL pc (w0 :: w1 :: w2 :: w3 :: w4 :: w5 :: w6 :: lr) (.ref a :: st) sh ν σ :=
  lg_ast h d hl hp k
theorem st_lstore_6 (h : Cx p s m args meth c G cc nL own) {w0 w1 w2 w3 w4 w5 w6 w7 : Option Value} {lr : List (Option Value)} {x : Int64} (d : decode cc pc = .ok (.lstore 6, 2)) (k : AW p l e R s m args below meth c Q cells slots G nL (pc + 2) (w0 :: w1 :: w2 :: w3 :: w4 :: w5 :: some (.long x) :: none :: lr) st sh ν σ) (hl : 6 + 1 < nL := by decide) (hp : okp [w5] 1 = true := by rfl) : AW p l e R s m args below meth c Q cells slots G nL pc (w0 :: w1 :: w2 :: w3 :: w4 :: w5 :: w6 :: w7 :: lr) (.long x :: st) sh ν σ :=
  lg_lst h d hl hp k
theorem st_iinc_6 (h : Cx p s m args meth c G cc nL own) {w0 w1 w2 w3 w4 w5 : Option Value} {lr : List (Option Value)} {x y : Int32} {n : Int} (d : decode cc pc = .ok (.iinc 6 n, 3)) (hv : x + Int32.ofInt n = y) (k : AW p l e R s m args below meth c Q cells slots G nL (pc + 3) (w0 :: w1 :: w2 :: w3 :: w4 :: w5 :: some (.int y) :: lr) st sh ν σ) (hl : 6 < nL := by decide) (hp : okp [w5] 1 = true := by rfl) : AW p l e R s m args below meth c Q cells slots G nL pc (w0 :: w1 :: w2 :: w3 :: w4 :: w5 :: some (.int x) :: lr) st sh ν σ :=
  lg_iinc h d rfl hv hl hp k
theorem st_iload_7 (h : Cx p s m args meth c G cc nL own) {w0 w1 w2 w3 w4 w5 w6 : Option Value} {lr : List (Option Value)} {x : Int32} (d : decode cc pc = .ok (.iload 7, 2)) (k : AW p l e R s m args below meth c Q cells slots G nL (pc + 2) (w0 :: w1 :: w2 :: w3 :: w4 :: w5 :: w6 :: some (.int x) :: lr) (.int x :: st) sh ν σ) : AW p l e R s m args below meth c Q cells slots G nL pc (w0 :: w1 :: w2 :: w3 :: w4 :: w5 :: w6 :: some (.int x) :: lr) (st) sh ν σ :=
  fun H locs ls hH hS hl => lv_iload h.x h.b d (lh_at (k := 7) (v := .int x) hl rfl) (k H locs ls hH hS hl)
theorem st_aload_7 (h : Cx p s m args meth c G cc nL own) {w0 w1 w2 w3 w4 w5 w6 : Option Value} {lr : List (Option Value)} {a : Nat} (d : decode cc pc = .ok (.aload 7, 2)) (k : AW p l e R s m args below meth c Q cells slots G nL (pc + 2) (w0 :: w1 :: w2 :: w3 :: w4 :: w5 :: w6 :: some (.ref a) :: lr) (.ref a :: st) sh ν σ) : AW p l e R s m args below meth c Q cells slots G nL pc (w0 :: w1 :: w2 :: w3 :: w4 :: w5 :: w6 :: some (.ref a) :: lr) (st) sh ν σ :=
  fun H locs ls hH hS hl => lv_aload h.x h.b d (lh_at (k := 7) (v := .ref a) hl rfl) (k H locs ls hH hS hl)
theorem st_tload_7 (h : Cx p s m args meth c G cc nL own) {w0 w1 w2 w3 w4 w5 w6 : Option Value} {lr : List (Option Value)} {a : Nat} (d : decode cc pc = .ok (.aload 7, 2)) (k : AW p l e R s m args below meth c Q cells slots G nL (pc + 2) (w0 :: w1 :: w2 :: w3 :: w4 :: w5 :: w6 :: some (.retAddr a) :: lr) (.retAddr a :: st) sh ν σ) : AW p l e R s m args below meth c Q cells slots G nL pc (w0 :: w1 :: w2 :: w3 :: w4 :: w5 :: w6 :: some (.retAddr a) :: lr) (st) sh ν σ :=
  fun H locs ls hH hS hl => lv_aload h.x h.b d (lh_at (k := 7) (v := .retAddr a) hl rfl) (k H locs ls hH hS hl)
theorem st_zload_7 (h : Cx p s m args meth c G cc nL own) {w0 w1 w2 w3 w4 w5 w6 : Option Value} {lr : List (Option Value)}  (d : decode cc pc = .ok (.aload 7, 2)) (k : AW p l e R s m args below meth c Q cells slots G nL (pc + 2) (w0 :: w1 :: w2 :: w3 :: w4 :: w5 :: w6 :: some .null :: lr) (.null :: st) sh ν σ) : AW p l e R s m args below meth c Q cells slots G nL pc (w0 :: w1 :: w2 :: w3 :: w4 :: w5 :: w6 :: some .null :: lr) (st) sh ν σ :=
  fun H locs ls hH hS hl => lv_aloadN h.x h.b d (lh_at (k := 7) (v := .null) hl rfl) (k H locs ls hH hS hl)
theorem st_lload_7 (h : Cx p s m args meth c G cc nL own) {w0 w1 w2 w3 w4 w5 w6 : Option Value} {lr : List (Option Value)} {x : Int64} (d : decode cc pc = .ok (.lload 7, 2)) (k : AW p l e R s m args below meth c Q cells slots G nL (pc + 2) (w0 :: w1 :: w2 :: w3 :: w4 :: w5 :: w6 :: some (.long x) :: lr) (.long x :: st) sh ν σ) : AW p l e R s m args below meth c Q cells slots G nL pc (w0 :: w1 :: w2 :: w3 :: w4 :: w5 :: w6 :: some (.long x) :: lr) (st) sh ν σ :=
  fun H locs ls hH hS hl => lv_lload h.x h.b d (lh_at (k := 7) (v := .long x) hl rfl) (k H locs ls hH hS hl)
theorem st_istore_7 (h : Cx p s m args meth c G cc nL own) {w0 w1 w2 w3 w4 w5 w6 w7 : Option Value} {lr : List (Option Value)} {x : Int32} (d : decode cc pc = .ok (.istore 7, 2)) (k : AW p l e R s m args below meth c Q cells slots G nL (pc + 2) (w0 :: w1 :: w2 :: w3 :: w4 :: w5 :: w6 :: some (.int x) :: lr) st sh ν σ) (hl : 7 < nL := by decide) (hp : okp [w6] 1 = true := by rfl) : AW p l e R s m args below meth c Q cells slots G nL pc (w0 :: w1 :: w2 :: w3 :: w4 :: w5 :: w6 :: w7 :: lr) (.int x :: st) sh ν σ :=
  lg_ist h d hl hp k
theorem st_astore_7 (h : Cx p s m args meth c G cc nL own) {w0 w1 w2 w3 w4 w5 w6 w7 : Option Value} {lr : List (Option Value)} {a : Nat} (d : decode cc pc = .ok (.astore 7, 2)) (k : AW p l e R s m args below meth c Q cells slots G nL (pc + 2) (w0 :: w1 :: w2 :: w3 :: w4 :: w5 :: w6 :: some (.ref a) :: lr) st sh ν σ) (hl : 7 < nL := by decide) (hp : okp [w6] 1 = true := by rfl) : AW p l e R s m args below meth c Q cells slots G nL pc (w0 :: w1 :: w2 :: w3 :: w4 :: w5 :: w6 :: w7 :: lr) (.ref a :: st) sh ν σ :=
  lg_ast h d hl hp k
theorem st_lstore_7 (h : Cx p s m args meth c G cc nL own) {w0 w1 w2 w3 w4 w5 w6 w7 w8 : Option Value} {lr : List (Option Value)} {x : Int64} (d : decode cc pc = .ok (.lstore 7, 2)) (k : AW p l e R s m args below meth c Q cells slots G nL (pc + 2) (w0 :: w1 :: w2 :: w3 :: w4 :: w5 :: w6 :: some (.long x) :: none :: lr) st sh ν σ) (hl : 7 + 1 < nL := by decide) (hp : okp [w6] 1 = true := by rfl) : AW p l e R s m args below meth c Q cells slots G nL pc (w0 :: w1 :: w2 :: w3 :: w4 :: w5 :: w6 :: w7 :: w8 :: lr) (.long x :: st) sh ν σ :=
  lg_lst h d hl hp k
theorem st_iinc_7 (h : Cx p s m args meth c G cc nL own) {w0 w1 w2 w3 w4 w5 w6 : Option Value} {lr : List (Option Value)} {x y : Int32} {n : Int} (d : decode cc pc = .ok (.iinc 7 n, 3)) (hv : x + Int32.ofInt n = y) (k : AW p l e R s m args below meth c Q cells slots G nL (pc + 3) (w0 :: w1 :: w2 :: w3 :: w4 :: w5 :: w6 :: some (.int y) :: lr) st sh ν σ) (hl : 7 < nL := by decide) (hp : okp [w6] 1 = true := by rfl) : AW p l e R s m args below meth c Q cells slots G nL pc (w0 :: w1 :: w2 :: w3 :: w4 :: w5 :: w6 :: some (.int x) :: lr) st sh ν σ :=
  lg_iinc h d rfl hv hl hp k
theorem st_iload_8 (h : Cx p s m args meth c G cc nL own) {w0 w1 w2 w3 w4 w5 w6 w7 : Option Value} {lr : List (Option Value)} {x : Int32} (d : decode cc pc = .ok (.iload 8, 2)) (k : AW p l e R s m args below meth c Q cells slots G nL (pc + 2) (w0 :: w1 :: w2 :: w3 :: w4 :: w5 :: w6 :: w7 :: some (.int x) :: lr) (.int x :: st) sh ν σ) : AW p l e R s m args below meth c Q cells slots G nL pc (w0 :: w1 :: w2 :: w3 :: w4 :: w5 :: w6 :: w7 :: some (.int x) :: lr) (st) sh ν σ :=
  fun H locs ls hH hS hl => lv_iload h.x h.b d (lh_at (k := 8) (v := .int x) hl rfl) (k H locs ls hH hS hl)
theorem st_aload_8 (h : Cx p s m args meth c G cc nL own) {w0 w1 w2 w3 w4 w5 w6 w7 : Option Value} {lr : List (Option Value)} {a : Nat} (d : decode cc pc = .ok (.aload 8, 2)) (k : AW p l e R s m args below meth c Q cells slots G nL (pc + 2) (w0 :: w1 :: w2 :: w3 :: w4 :: w5 :: w6 :: w7 :: some (.ref a) :: lr) (.ref a :: st) sh ν σ) : AW p l e R s m args below meth c Q cells slots G nL pc (w0 :: w1 :: w2 :: w3 :: w4 :: w5 :: w6 :: w7 :: some (.ref a) :: lr) (st) sh ν σ :=
  fun H locs ls hH hS hl => lv_aload h.x h.b d (lh_at (k := 8) (v := .ref a) hl rfl) (k H locs ls hH hS hl)
theorem st_tload_8 (h : Cx p s m args meth c G cc nL own) {w0 w1 w2 w3 w4 w5 w6 w7 : Option Value} {lr : List (Option Value)} {a : Nat} (d : decode cc pc = .ok (.aload 8, 2)) (k : AW p l e R s m args below meth c Q cells slots G nL (pc + 2) (w0 :: w1 :: w2 :: w3 :: w4 :: w5 :: w6 :: w7 :: some (.retAddr a) :: lr) (.retAddr a :: st) sh ν σ) : AW p l e R s m args below meth c Q cells slots G nL pc (w0 :: w1 :: w2 :: w3 :: w4 :: w5 :: w6 :: w7 :: some (.retAddr a) :: lr) (st) sh ν σ :=
  fun H locs ls hH hS hl => lv_aload h.x h.b d (lh_at (k := 8) (v := .retAddr a) hl rfl) (k H locs ls hH hS hl)
theorem st_zload_8 (h : Cx p s m args meth c G cc nL own) {w0 w1 w2 w3 w4 w5 w6 w7 : Option Value} {lr : List (Option Value)}  (d : decode cc pc = .ok (.aload 8, 2)) (k : AW p l e R s m args below meth c Q cells slots G nL (pc + 2) (w0 :: w1 :: w2 :: w3 :: w4 :: w5 :: w6 :: w7 :: some .null :: lr) (.null :: st) sh ν σ) : AW p l e R s m args below meth c Q cells slots G nL pc (w0 :: w1 :: w2 :: w3 :: w4 :: w5 :: w6 :: w7 :: some .null :: lr) (st) sh ν σ :=
  fun H locs ls hH hS hl => lv_aloadN h.x h.b d (lh_at (k := 8) (v := .null) hl rfl) (k H locs ls hH hS hl)
theorem st_lload_8 (h : Cx p s m args meth c G cc nL own) {w0 w1 w2 w3 w4 w5 w6 w7 : Option Value} {lr : List (Option Value)} {x : Int64} (d : decode cc pc = .ok (.lload 8, 2)) (k : AW p l e R s m args below meth c Q cells slots G nL (pc + 2) (w0 :: w1 :: w2 :: w3 :: w4 :: w5 :: w6 :: w7 :: some (.long x) :: lr) (.long x :: st) sh ν σ) : AW p l e R s m args below meth c Q cells slots G nL pc (w0 :: w1 :: w2 :: w3 :: w4 :: w5 :: w6 :: w7 :: some (.long x) :: lr) (st) sh ν σ :=
  fun H locs ls hH hS hl => lv_lload h.x h.b d (lh_at (k := 8) (v := .long x) hl rfl) (k H locs ls hH hS hl)
theorem st_istore_8 (h : Cx p s m args meth c G cc nL own) {w0 w1 w2 w3 w4 w5 w6 w7 w8 : Option Value} {lr : List (Option Value)} {x : Int32} (d : decode cc pc = .ok (.istore 8, 2)) (k : AW p l e R s m args below meth c Q cells slots G nL (pc + 2) (w0 :: w1 :: w2 :: w3 :: w4 :: w5 :: w6 :: w7 :: some (.int x) :: lr) st sh ν σ) (hl : 8 < nL := by decide) (hp : okp [w7] 1 = true := by rfl) : AW p l e R s m args below meth c Q cells slots G nL pc (w0 :: w1 :: w2 :: w3 :: w4 :: w5 :: w6 :: w7 :: w8 :: lr) (.int x :: st) sh ν σ :=
  lg_ist h d hl hp k
theorem st_astore_8 (h : Cx p s m args meth c G cc nL own) {w0 w1 w2 w3 w4 w5 w6 w7 w8 : Option Value} {lr : List (Option Value)} {a : Nat} (d : decode cc pc = .ok (.astore 8, 2)) (k : AW p l e R s m args below meth c Q cells slots G nL (pc + 2) (w0 :: w1 :: w2 :: w3 :: w4 :: w5 :: w6 :: w7 :: some (.ref a) :: lr) st sh ν σ) (hl : 8 < nL := by decide) (hp : okp [w7] 1 = true := by rfl) : AW p l e R s m args below meth c Q cells slots G nL pc (w0 :: w1 :: w2 :: w3 :: w4 :: w5 :: w6 :: w7 :: w8 :: lr) (.ref a :: st) sh ν σ :=
  lg_ast h d hl hp k
theorem st_lstore_8 (h : Cx p s m args meth c G cc nL own) {w0 w1 w2 w3 w4 w5 w6 w7 w8 w9 : Option Value} {lr : List (Option Value)} {x : Int64} (d : decode cc pc = .ok (.lstore 8, 2)) (k : AW p l e R s m args below meth c Q cells slots G nL (pc + 2) (w0 :: w1 :: w2 :: w3 :: w4 :: w5 :: w6 :: w7 :: some (.long x) :: none :: lr) st sh ν σ) (hl : 8 + 1 < nL := by decide) (hp : okp [w7] 1 = true := by rfl) : AW p l e R s m args below meth c Q cells slots G nL pc (w0 :: w1 :: w2 :: w3 :: w4 :: w5 :: w6 :: w7 :: w8 :: w9 :: lr) (.long x :: st) sh ν σ :=
  lg_lst h d hl hp k
theorem st_iinc_8 (h : Cx p s m args meth c G cc nL own) {w0 w1 w2 w3 w4 w5 w6 w7 : Option Value} {lr : List (Option Value)} {x y : Int32} {n : Int} (d : decode cc pc = .ok (.iinc 8 n, 3)) (hv : x + Int32.ofInt n = y) (k : AW p l e R s m args below meth c Q cells slots G nL (pc + 3) (w0 :: w1 :: w2 :: w3 :: w4 :: w5 :: w6 :: w7 :: some (.int y) :: lr) st sh ν σ) (hl : 8 < nL := by decide) (hp : okp [w7] 1 = true := by rfl) : AW p l e R s m args below meth c Q cells slots G nL pc (w0 :: w1 :: w2 :: w3 :: w4 :: w5 :: w6 :: w7 :: some (.int x) :: lr) st sh ν σ :=
  lg_iinc h d rfl hv hl hp k
theorem st_iload_9 (h : Cx p s m args meth c G cc nL own) {w0 w1 w2 w3 w4 w5 w6 w7 w8 : Option Value} {lr : List (Option Value)} {x : Int32} (d : decode cc pc = .ok (.iload 9, 2)) (k : AW p l e R s m args below meth c Q cells slots G nL (pc + 2) (w0 :: w1 :: w2 :: w3 :: w4 :: w5 :: w6 :: w7 :: w8 :: some (.int x) :: lr) (.int x :: st) sh ν σ) : AW p l e R s m args below meth c Q cells slots G nL pc (w0 :: w1 :: w2 :: w3 :: w4 :: w5 :: w6 :: w7 :: w8 :: some (.int x) :: lr) (st) sh ν σ :=
  fun H locs ls hH hS hl => lv_iload h.x h.b d (lh_at (k := 9) (v := .int x) hl rfl) (k H locs ls hH hS hl)
theorem st_aload_9 (h : Cx p s m args meth c G cc nL own) {w0 w1 w2 w3 w4 w5 w6 w7 w8 : Option Value} {lr : List (Option Value)} {a : Nat} (d : decode cc pc = .ok (.aload 9, 2)) (k : AW p l e R s m args below meth c Q cells slots G nL (pc + 2) (w0 :: w1 :: w2 :: w3 :: w4 :: w5 :: w6 :: w7 :: w8 :: some (.ref a) :: lr) (.ref a :: st) sh ν σ) : AW p l e R s m args below meth c Q cells slots G nL pc (w0 :: w1 :: w2 :: w3 :: w4 :: w5 :: w6 :: w7 :: w8 :: some (.ref a) :: lr) (st) sh ν σ :=
  fun H locs ls hH hS hl => lv_aload h.x h.b d (lh_at (k := 9) (v := .ref a) hl rfl) (k H locs ls hH hS hl)
theorem st_tload_9 (h : Cx p s m args meth c G cc nL own) {w0 w1 w2 w3 w4 w5 w6 w7 w8 : Option Value} {lr : List (Option Value)} {a : Nat} (d : decode cc pc = .ok (.aload 9, 2)) (k : AW p l e R s m args below meth c Q cells slots G nL (pc + 2) (w0 :: w1 :: w2 :: w3 :: w4 :: w5 :: w6 :: w7 :: w8 :: some (.retAddr a) :: lr) (.retAddr a :: st) sh ν σ) : AW p l e R s m args below meth c Q cells slots G nL pc (w0 :: w1 :: w2 :: w3 :: w4 :: w5 :: w6 :: w7 :: w8 :: some (.retAddr a) :: lr) (st) sh ν σ :=
  fun H locs ls hH hS hl => lv_aload h.x h.b d (lh_at (k := 9) (v := .retAddr a) hl rfl) (k H locs ls hH hS hl)
theorem st_zload_9 (h : Cx p s m args meth c G cc nL own) {w0 w1 w2 w3 w4 w5 w6 w7 w8 : Option Value} {lr : List (Option Value)}  (d : decode cc pc = .ok (.aload 9, 2)) (k : AW p l e R s m args below meth c Q cells slots G nL (pc + 2) (w0 :: w1 :: w2 :: w3 :: w4 :: w5 :: w6 :: w7 :: w8 :: some .null :: lr) (.null :: st) sh ν σ) : AW p l e R s m args below meth c Q cells slots G nL pc (w0 :: w1 :: w2 :: w3 :: w4 :: w5 :: w6 :: w7 :: w8 :: some .null :: lr) (st) sh ν σ :=
  fun H locs ls hH hS hl => lv_aloadN h.x h.b d (lh_at (k := 9) (v := .null) hl rfl) (k H locs ls hH hS hl)
theorem st_lload_9 (h : Cx p s m args meth c G cc nL own) {w0 w1 w2 w3 w4 w5 w6 w7 w8 : Option Value} {lr : List (Option Value)} {x : Int64} (d : decode cc pc = .ok (.lload 9, 2)) (k : AW p l e R s m args below meth c Q cells slots G nL (pc + 2) (w0 :: w1 :: w2 :: w3 :: w4 :: w5 :: w6 :: w7 :: w8 :: some (.long x) :: lr) (.long x :: st) sh ν σ) : AW p l e R s m args below meth c Q cells slots G nL pc (w0 :: w1 :: w2 :: w3 :: w4 :: w5 :: w6 :: w7 :: w8 :: some (.long x) :: lr) (st) sh ν σ :=
  fun H locs ls hH hS hl => lv_lload h.x h.b d (lh_at (k := 9) (v := .long x) hl rfl) (k H locs ls hH hS hl)
theorem st_istore_9 (h : Cx p s m args meth c G cc nL own) {w0 w1 w2 w3 w4 w5 w6 w7 w8 w9 : Option Value} {lr : List (Option Value)} {x : Int32} (d : decode cc pc = .ok (.istore 9, 2)) (k : AW p l e R s m args below meth c Q cells slots G nL (pc + 2) (w0 :: w1 :: w2 :: w3 :: w4 :: w5 :: w6 :: w7 :: w8 :: some (.int x) :: lr) st sh ν σ) (hl : 9 < nL := by decide) (hp : okp [w8] 1 = true := by rfl) : AW p l e R s m args below meth c Q cells slots G nL pc (w0 :: w1 :: w2 :: w3 :: w4 :: w5 :: w6 :: w7 :: w8 :: w9 :: lr) (.int x :: st) sh ν σ :=
  lg_ist h d hl hp k
theorem st_astore_9 (h : Cx p s m args meth c G cc nL own) {w0 w1 w2 w3 w4 w5 w6 w7 w8 w9 : Option Value} {lr : List (Option Value)} {a : Nat} (d : decode cc pc = .ok (.astore 9, 2)) (k : AW p l e R s m args below meth c Q cells slots G nL (pc + 2) (w0 :: w1 :: w2 :: w3 :: w4 :: w5 :: w6 :: w7 :: w8 :: some (.ref a) :: lr) st sh ν σ) (hl : 9 < nL := by decide) (hp : okp [w8] 1 = true := by rfl) : AW p l e R s m args below meth c Q cells slots G nL pc (w0 :: w1 :: w2 :: w3 :: w4 :: w5 :: w6 :: w7 :: w8 :: w9 :: lr) (.ref a :: st) sh ν σ :=
  lg_ast h d hl hp k
theorem st_lstore_9 (h : Cx p s m args meth c G cc nL own) {w0 w1 w2 w3 w4 w5 w6 w7 w8 w9 w10 : Option Value} {lr : List (Option Value)} {x : Int64} (d : decode cc pc = .ok (.lstore 9, 2)) (k : AW p l e R s m args below meth c Q cells slots G nL (pc + 2) (w0 :: w1 :: w2 :: w3 :: w4 :: w5 :: w6 :: w7 :: w8 :: some (.long x) :: none :: lr) st sh ν σ) (hl : 9 + 1 < nL := by decide) (hp : okp [w8] 1 = true := by rfl) : AW p l e R s m args below meth c Q cells slots G nL pc (w0 :: w1 :: w2 :: w3 :: w4 :: w5 :: w6 :: w7 :: w8 :: w9 :: w10 :: lr) (.long x :: st) sh ν σ :=
  lg_lst h d hl hp k
theorem st_iinc_9 (h : Cx p s m args meth c G cc nL own) {w0 w1 w2 w3 w4 w5 w6 w7 w8 : Option Value} {lr : List (Option Value)} {x y : Int32} {n : Int} (d : decode cc pc = .ok (.iinc 9 n, 3)) (hv : x + Int32.ofInt n = y) (k : AW p l e R s m args below meth c Q cells slots G nL (pc + 3) (w0 :: w1 :: w2 :: w3 :: w4 :: w5 :: w6 :: w7 :: w8 :: some (.int y) :: lr) st sh ν σ) (hl : 9 < nL := by decide) (hp : okp [w8] 1 = true := by rfl) : AW p l e R s m args below meth c Q cells slots G nL pc (w0 :: w1 :: w2 :: w3 :: w4 :: w5 :: w6 :: w7 :: w8 :: some (.int x) :: lr) st sh ν σ :=
  lg_iinc h d rfl hv hl hp k
theorem st_iload_10 (h : Cx p s m args meth c G cc nL own) {w0 w1 w2 w3 w4 w5 w6 w7 w8 w9 : Option Value} {lr : List (Option Value)} {x : Int32} (d : decode cc pc = .ok (.iload 10, 2)) (k : AW p l e R s m args below meth c Q cells slots G nL (pc + 2) (w0 :: w1 :: w2 :: w3 :: w4 :: w5 :: w6 :: w7 :: w8 :: w9 :: some (.int x) :: lr) (.int x :: st) sh ν σ) : AW p l e R s m args below meth c Q cells slots G nL pc (w0 :: w1 :: w2 :: w3 :: w4 :: w5 :: w6 :: w7 :: w8 :: w9 :: some (.int x) :: lr) (st) sh ν σ :=
  fun H locs ls hH hS hl => lv_iload h.x h.b d (lh_at (k := 10) (v := .int x) hl rfl) (k H locs ls hH hS hl)
theorem st_aload_10 (h : Cx p s m args meth c G cc nL own) {w0 w1 w2 w3 w4 w5 w6 w7 w8 w9 : Option Value} {lr : List (Option Value)} {a : Nat} (d : decode cc pc = .ok (.aload 10, 2)) (k : AW p l e R s m args below meth c Q cells slots G nL (pc + 2) (w0 :: w1 :: w2 :: w3 :: w4 :: w5 :: w6 :: w7 :: w8 :: w9 :: some (.ref a) :: lr) (.ref a :: st) sh ν σ) : AW p l e R s m args below meth c Q cells slots G nL pc (w0 :: w1 :: w2 :: w3 :: w4 :: w5 :: w6 :: w7 :: w8 :: w9 :: some (.ref a) :: lr) (st) sh ν σ :=
  fun H locs ls hH hS hl => lv_aload h.x h.b d (lh_at (k := 10) (v := .ref a) hl rfl) (k H locs ls hH hS hl)
theorem st_tload_10 (h : Cx p s m args meth c G cc nL own) {w0 w1 w2 w3 w4 w5 w6 w7 w8 w9 : Option Value} {lr : List (Option Value)} {a : Nat} (d : decode cc pc = .ok (.aload 10, 2)) (k : AW p l e R s m args below meth c Q cells slots G nL (pc + 2) (w0 :: w1 :: w2 :: w3 :: w4 :: w5 :: w6 :: w7 :: w8 :: w9 :: some (.retAddr a) :: lr) (.retAddr a :: st) sh ν σ) : AW p l e R s m args below meth c Q cells slots G nL pc (w0 :: w1 :: w2 :: w3 :: w4 :: w5 :: w6 :: w7 :: w8 :: w9 :: some (.retAddr a) :: lr) (st) sh ν σ :=
  fun H locs ls hH hS hl => lv_aload h.x h.b d (lh_at (k := 10) (v := .retAddr a) hl rfl) (k H locs ls hH hS hl)
theorem st_zload_10 (h : Cx p s m args meth c G cc nL own) {w0 w1 w2 w3 w4 w5 w6 w7 w8 w9 : Option Value} {lr : List (Option Value)}  (d : decode cc pc = .ok (.aload 10, 2)) (k : AW p l e R s m args below meth c Q cells slots G nL (pc + 2) (w0 :: w1 :: w2 :: w3 :: w4 :: w5 :: w6 :: w7 :: w8 :: w9 :: some .null :: lr) (.null :: st) sh ν σ) : AW p l e R s m args below meth c Q cells slots G nL pc (w0 :: w1 :: w2 :: w3 :: w4 :: w5 :: w6 :: w7 :: w8 :: w9 :: some .null :: lr) (st) sh ν σ :=
  fun H locs ls hH hS hl => lv_aloadN h.x h.b d (lh_at (k := 10) (v := .null) hl rfl) (k H locs ls hH hS hl)
theorem st_lload_10 (h : Cx p s m args meth c G cc nL own) {w0 w1 w2 w3 w4 w5 w6 w7 w8 w9 : Option Value} {lr : List (Option Value)} {x : Int64} (d : decode cc pc = .ok (.lload 10, 2)) (k : AW p l e R s m args below meth c Q cells slots G nL (pc + 2) (w0 :: w1 :: w2 :: w3 :: w4 :: w5 :: w6 :: w7 :: w8 :: w9 :: some (.long x) :: lr) (.long x :: st) sh ν σ) : AW p l e R s m args below meth c Q cells slots G nL pc (w0 :: w1 :: w2 :: w3 :: w4 :: w5 :: w6 :: w7 :: w8 :: w9 :: some (.long x) :: lr) (st) sh ν σ :=
  fun H locs ls hH hS hl => lv_lload h.x h.b d (lh_at (k := 10) (v := .long x) hl rfl) (k H locs ls hH hS hl)
theorem st_istore_10 (h : Cx p s m args meth c G cc nL own) {w0 w1 w2 w3 w4 w5 w6 w7 w8 w9 w10 : Option Value} {lr : List (Option Value)} {x : Int32} (d : decode cc pc = .ok (.istore 10, 2)) (k : AW p l e R s m args below meth c Q cells slots G nL (pc + 2) (w0 :: w1 :: w2 :: w3 :: w4 :: w5 :: w6 :: w7 :: w8 :: w9 :: some (.int x) :: lr) st sh ν σ) (hl : 10 < nL := by decide) (hp : okp [w9] 1 = true := by rfl) : AW p l e R s m args below meth c Q cells slots G nL pc (w0 :: w1 :: w2 :: w3 :: w4 :: w5 :: w6 :: w7 :: w8 :: w9 :: w10 :: lr) (.int x :: st) sh ν σ :=
  lg_ist h d hl hp k
theorem st_astore_10 (h : Cx p s m args meth c G cc nL own) {w0 w1 w2 w3 w4 w5 w6 w7 w8 w9 w10 : Option Value} {lr : List (Option Value)} {a : Nat} (d : decode cc pc = .ok (.astore 10, 2)) (k : AW p l e R s m args below meth c Q cells slots G nL (pc + 2) (w0 :: w1 :: w2 :: w3 :: w4 :: w5 :: w6 :: w7 :: w8 :: w9 :: some (.ref a) :: lr) st sh ν σ) (hl : 10 < nL := by decide) (hp : okp [w9] 1 = true := by rfl) : AW p l e R s m args below meth c Q cells slots G nL pc (w0 :: w1 :: w2 :: w3 :: w4 :: w5 :: w6 :: w7 :: w8 :: w9 :: w10 :: lr) (.ref a :: st) sh ν σ :=
  lg_ast h d hl hp k
theorem st_lstore_10 (h : Cx p s m args meth c G cc nL own) {w0 w1 w2 w3 w4 w5 w6 w7 w8 w9 w10 w11 : Option Value} {lr : List (Option Value)} {x : Int64} (d : decode cc pc = .ok (.lstore 10, 2)) (k : AW p l e R s m args below meth c Q cells slots G nL (pc + 2) (w0 :: w1 :: w2 :: w3 :: w4 :: w5 :: w6 :: w7 :: w8 :: w9 :: some (.long x) :: none :: lr) st sh ν σ) (hl : 10 + 1 < nL := by decide) (hp : okp [w9] 1 = true := by rfl) : AW p l e R s m args below meth c Q cells slots G nL pc (w0 :: w1 :: w2 :: w3 :: w4 :: w5 :: w6 :: w7 :: w8 :: w9 :: w10 :: w11 :: lr) (.long x :: st) sh ν σ :=
  lg_lst h d hl hp k
theorem st_iinc_10 (h : Cx p s m args meth c G cc nL own) {w0 w1 w2 w3 w4 w5 w6 w7 w8 w9 : Option Value} {lr : List (Option Value)} {x y : Int32} {n : Int} (d : decode cc pc = .ok (.iinc 10 n, 3)) (hv : x + Int32.ofInt n = y) (k : AW p l e R s m args below meth c Q cells slots G nL (pc + 3) (w0 :: w1 :: w2 :: w3 :: w4 :: w5 :: w6 :: w7 :: w8 :: w9 :: some (.int y) :: lr) st sh ν σ) (hl : 10 < nL := by decide) (hp : okp [w9] 1 = true := by rfl) : AW p l e R s m args below meth c Q cells slots G nL pc (w0 :: w1 :: w2 :: w3 :: w4 :: w5 :: w6 :: w7 :: w8 :: w9 :: some (.int x) :: lr) st sh ν σ :=
  lg_iinc h d rfl hv hl hp k
theorem st_iload_11 (h : Cx p s m args meth c G cc nL own) {w0 w1 w2 w3 w4 w5 w6 w7 w8 w9 w10 : Option Value} {lr : List (Option Value)} {x : Int32} (d : decode cc pc = .ok (.iload 11, 2)) (k : AW p l e R s m args below meth c Q cells slots G nL (pc + 2) (w0 :: w1 :: w2 :: w3 :: w4 :: w5 :: w6 :: w7 :: w8 :: w9 :: w10 :: some (.int x) :: lr) (.int x :: st) sh ν σ) : AW p l e R s m args below meth c Q cells slots G nL pc (w0 :: w1 :: w2 :: w3 :: w4 :: w5 :: w6 :: w7 :: w8 :: w9 :: w10 :: some (.int x) :: lr) (st) sh ν σ :=
  fun H locs ls hH hS hl => lv_iload h.x h.b d (lh_at (k := 11) (v := .int x) hl rfl) (k H locs ls hH hS hl)
theorem st_aload_11 (h : Cx p s m args meth c G cc nL own) {w0 w1 w2 w3 w4 w5 w6 w7 w8 w9 w10 : Option Value} {lr : List (Option Value)} {a : Nat} (d : decode cc pc = .ok (.aload 11, 2)) (k : AW p l e R s m args below meth c Q cells slots G nL (pc + 2) (w0 :: w1 :: w2 :: w3 :: w4 :: w5 :: w6 :: w7 :: w8 :: w9 :: w10 :: some (.ref a) :: lr) (.ref a :: st) sh ν σ) : AW p l e R s m args below meth c Q cells slots G nL pc (w0 :: w1 :: w2 :: w3 :: w4 :: w5 :: w6 :: w7 :: w8 :: w9 :: w10 :: some (.ref a) :: lr) (st) sh ν σ :=
  fun H locs ls hH hS hl => lv_aload h.x h.b d (lh_at (k := 11) (v := .ref a) hl rfl) (k H locs ls hH hS hl)
theorem st_tload_11 (h : Cx p s m args meth c G cc nL own) {w0 w1 w2 w3 w4 w5 w6 w7 w8 w9 w10 : Option Value} {lr : List (Option Value)} {a : Nat} (d : decode cc pc = .ok (.aload 11, 2)) (k : AW p l e R s m args below meth c Q cells slots G nL (pc + 2) (w0 :: w1 :: w2 :: w3 :: w4 :: w5 :: w6 :: w7 :: w8 :: w9 :: w10 :: some (.retAddr a) :: lr) (.retAddr a :: st) sh ν σ) : AW p l e R s m args below meth c Q cells slots G nL pc (w0 :: w1 :: w2 :: w3 :: w4 :: w5 :: w6 :: w7 :: w8 :: w9 :: w10 :: some (.retAddr a) :: lr) (st) sh ν σ :=
  fun H locs ls hH hS hl => lv_aload h.x h.b d (lh_at (k := 11) (v := .retAddr a) hl rfl) (k H locs ls hH hS hl)
theorem st_zload_11 (h : Cx p s m args meth c G cc nL own) {w0 w1 w2 w3 w4 w5 w6 w7 w8 w9 w10 : Option Value} {lr : List (Option Value)}  (d : decode cc pc = .ok (.aload 11, 2)) (k : AW p l e R s m args below meth c Q cells slots G nL (pc + 2) (w0 :: w1 :: w2 :: w3 :: w4 :: w5 :: w6 :: w7 :: w8 :: w9 :: w10 :: some .null :: lr) (.null :: st) sh ν σ) : AW p l e R s m args below meth c Q cells slots G nL pc (w0 :: w1 :: w2 :: w3 :: w4 :: w5 :: w6 :: w7 :: w8 :: w9 :: w10 :: some .null :: lr) (st) sh ν σ :=
  fun H locs ls hH hS hl => lv_aloadN h.x h.b d (lh_at (k := 11) (v := .null) hl rfl) (k H locs ls hH hS hl)
theorem st_lload_11 (h : Cx p s m args meth c G cc nL own) {w0 w1 w2 w3 w4 w5 w6 w7 w8 w9 w10 : Option Value} {lr : List (Option Value)} {x : Int64} (d : decode cc pc = .ok (.lload 11, 2)) (k : AW p l e R s m args below meth c Q cells slots G nL (pc + 2) (w0 :: w1 :: w2 :: w3 :: w4 :: w5 :: w6 :: w7 :: w8 :: w9 :: w10 :: some (.long x) :: lr) (.long x :: st) sh ν σ) : AW p l e R s m args below meth c Q cells slots G nL pc (w0 :: w1 :: w2 :: w3 :: w4 :: w5 :: w6 :: w7 :: w8 :: w9 :: w10 :: some (.long x) :: lr) (st) sh ν σ :=
  fun H locs ls hH hS hl => lv_lload h.x h.b d (lh_at (k := 11) (v := .long x) hl rfl) (k H locs ls hH hS hl)
theorem st_istore_11 (h : Cx p s m args meth c G cc nL own) {w0 w1 w2 w3 w4 w5 w6 w7 w8 w9 w10 w11 : Option Value} {lr : List (Option Value)} {x : Int32} (d : decode cc pc = .ok (.istore 11, 2)) (k : AW p l e R s m args below meth c Q cells slots G nL (pc + 2) (w0 :: w1 :: w2 :: w3 :: w4 :: w5 :: w6 :: w7 :: w8 :: w9 :: w10 :: some (.int x) :: lr) st sh ν σ) (hl : 11 < nL := by decide) (hp : okp [w10] 1 = true := by rfl) : AW p l e R s m args below meth c Q cells slots G nL pc (w0 :: w1 :: w2 :: w3 :: w4 :: w5 :: w6 :: w7 :: w8 :: w9 :: w10 :: w11 :: lr) (.int x :: st) sh ν σ :=
  lg_ist h d hl hp k
theorem st_astore_11 (h : Cx p s m args meth c G cc nL own) {w0 w1 w2 w3 w4 w5 w6 w7 w8 w9 w10 w11 : Option Value} {lr : List (Option Value)} {a : Nat} (d : decode cc pc = .ok (.astore 11, 2)) (k : AW p l e R s m args below meth c Q cells slots G nL (pc + 2) (w0 :: w1 :: w2 :: w3 :: w4 :: w5 :: w6 :: w7 :: w8 :: w9 :: w10 :: some (.ref a) :: lr) st sh ν σ) (hl : 11 < nL := by decide) (hp : okp [w10] 1 = true := by rfl) : AW p l e R s m args below meth c Q cells slots G nL pc (w0 :: w1 :: w2 :: w3 :: w4 :: w5 :: w6 :: w7 :: w8 :: w9 :: w10 :: w11 :: lr) (.ref a :: st) sh ν σ :=
  lg_ast h d hl hp k
theorem st_lstore_11 (h : Cx p s m args meth c G cc nL own) {w0 w1 w2 w3 w4 w5 w6 w7 w8 w9 w10 w11 w12 : Option Value} {lr : List (Option Value)} {x : Int64} (d : decode cc pc = .ok (.lstore 11, 2)) (k : AW p l e R s m args below meth c Q cells slots G nL (pc + 2) (w0 :: w1 :: w2 :: w3 :: w4 :: w5 :: w6 :: w7 :: w8 :: w9 :: w10 :: some (.long x) :: none :: lr) st sh ν σ) (hl : 11 + 1 < nL := by decide) (hp : okp [w10] 1 = true := by rfl) : AW p l e R s m args below meth c Q cells slots G nL pc (w0 :: w1 :: w2 :: w3 :: w4 :: w5 :: w6 :: w7 :: w8 :: w9 :: w10 :: w11 :: w12 :: lr) (.long x :: st) sh ν σ :=
  lg_lst h d hl hp k
theorem st_iinc_11 (h : Cx p s m args meth c G cc nL own) {w0 w1 w2 w3 w4 w5 w6 w7 w8 w9 w10 : Option Value} {lr : List (Option Value)} {x y : Int32} {n : Int} (d : decode cc pc = .ok (.iinc 11 n, 3)) (hv : x + Int32.ofInt n = y) (k : AW p l e R s m args below meth c Q cells slots G nL (pc + 3) (w0 :: w1 :: w2 :: w3 :: w4 :: w5 :: w6 :: w7 :: w8 :: w9 :: w10 :: some (.int y) :: lr) st sh ν σ) (hl : 11 < nL := by decide) (hp : okp [w10] 1 = true := by rfl) : AW p l e R s m args below meth c Q cells slots G nL pc (w0 :: w1 :: w2 :: w3 :: w4 :: w5 :: w6 :: w7 :: w8 :: w9 :: w10 :: some (.int x) :: lr) st sh ν σ :=
  lg_iinc h d rfl hv hl hp k
theorem st_iload_12 (h : Cx p s m args meth c G cc nL own) {w0 w1 w2 w3 w4 w5 w6 w7 w8 w9 w10 w11 : Option Value} {lr : List (Option Value)} {x : Int32} (d : decode cc pc = .ok (.iload 12, 2)) (k : AW p l e R s m args below meth c Q cells slots G nL (pc + 2) (w0 :: w1 :: w2 :: w3 :: w4 :: w5 :: w6 :: w7 :: w8 :: w9 :: w10 :: w11 :: some (.int x) :: lr) (.int x :: st) sh ν σ) : AW p l e R s m args below meth c Q cells slots G nL pc (w0 :: w1 :: w2 :: w3 :: w4 :: w5 :: w6 :: w7 :: w8 :: w9 :: w10 :: w11 :: some (.int x) :: lr) (st) sh ν σ :=
  fun H locs ls hH hS hl => lv_iload h.x h.b d (lh_at (k := 12) (v := .int x) hl rfl) (k H locs ls hH hS hl)
theorem st_aload_12 (h : Cx p s m args meth c G cc nL own) {w0 w1 w2 w3 w4 w5 w6 w7 w8 w9 w10 w11 : Option Value} {lr : List (Option Value)} {a : Nat} (d : decode cc pc = .ok (.aload 12, 2)) (k : AW p l e R s m args below meth c Q cells slots G nL (pc + 2) (w0 :: w1 :: w2 :: w3 :: w4 :: w5 :: w6 :: w7 :: w8 :: w9 :: w10 :: w11 :: some (.ref a) :: lr) (.ref a :: st) sh ν σ) : AW p l e R s m args below meth c Q cells slots G nL pc (w0 :: w1 :: w2 :: w3 :: w4 :: w5 :: w6 :: w7 :: w8 :: w9 :: w10 :: w11 :: some (.ref a) :: lr) (st) sh ν σ :=
  fun H locs ls hH hS hl => lv_aload h.x h.b d (lh_at (k := 12) (v := .ref a) hl rfl) (k H locs ls hH hS hl)
theorem st_tload_12 (h : Cx p s m args meth c G cc nL own) {w0 w1 w2 w3 w4 w5 w6 w7 w8 w9 w10 w11 : Option Value} {lr : List (Option Value)} {a : Nat} (d : decode cc pc = .ok (.aload 12, 2)) (k : AW p l e R s m args below meth c Q cells slots G nL (pc + 2) (w0 :: w1 :: w2 :: w3 :: w4 :: w5 :: w6 :: w7 :: w8 :: w9 :: w10 :: w11 :: some (.retAddr a) :: lr) (.retAddr a :: st) sh ν σ) : AW p l e R s m args below meth c Q cells slots G nL pc (w0 :: w1 :: w2 :: w3 :: w4 :: w5 :: w6 :: w7 :: w8 :: w9 :: w10 :: w11 :: some (.retAddr a) :: lr) (st) sh ν σ :=
  fun H locs ls hH hS hl => lv_aload h.x h.b d (lh_at (k := 12) (v := .retAddr a) hl rfl) (k H locs ls hH hS hl)
theorem st_zload_12 (h : Cx p s m args meth c G cc nL own) {w0 w1 w2 w3 w4 w5 w6 w7 w8 w9 w10 w11 : Option Value} {lr : List (Option Value)}  (d : decode cc pc = .ok (.aload 12, 2)) (k : AW p l e R s m args below meth c Q cells slots G nL (pc + 2) (w0 :: w1 :: w2 :: w3 :: w4 :: w5 :: w6 :: w7 :: w8 :: w9 :: w10 :: w11 :: some .null :: lr) (.null :: st) sh ν σ) : AW p l e R s m args below meth c Q cells slots G nL pc (w0 :: w1 :: w2 :: w3 :: w4 :: w5 :: w6 :: w7 :: w8 :: w9 :: w10 :: w11 :: some .null :: lr) (st) sh ν σ :=
  fun H locs ls hH hS hl => lv_aloadN h.x h.b d (lh_at (k := 12) (v := .null) hl rfl) (k H locs ls hH hS hl)
theorem st_lload_12 (h : Cx p s m args meth c G cc nL own) {w0 w1 w2 w3 w4 w5 w6 w7 w8 w9 w10 w11 : Option Value} {lr : List (Option Value)} {x : Int64} (d : decode cc pc = .ok (.lload 12, 2)) (k : AW p l e R s m args below meth c Q cells slots G nL (pc + 2) (w0 :: w1 :: w2 :: w3 :: w4 :: w5 :: w6 :: w7 :: w8 :: w9 :: w10 :: w11 :: some (.long x) :: lr) (.long x :: st) sh ν σ) : AW p l e R s m args below meth c Q cells slots G nL pc (w0 :: w1 :: w2 :: w3 :: w4 :: w5 :: w6 :: w7 :: w8 :: w9 :: w10 :: w11 :: some (.long x) :: lr) (st) sh ν σ :=
  fun H locs ls hH hS hl => lv_lload h.x h.b d (lh_at (k := 12) (v := .long x) hl rfl) (k H locs ls hH hS hl)
theorem st_istore_12 (h : Cx p s m args meth c G cc nL own) {w0 w1 w2 w3 w4 w5 w6 w7 w8 w9 w10 w11 w12 : Option Value} {lr : List (Option Value)} {x : Int32} (d : decode cc pc = .ok (.istore 12, 2)) (k : AW p l e R s m args below meth c Q cells slots G nL (pc + 2) (w0 :: w1 :: w2 :: w3 :: w4 :: w5 :: w6 :: w7 :: w8 :: w9 :: w10 :: w11 :: some (.int x) :: lr) st sh ν σ) (hl : 12 < nL := by decide) (hp : okp [w11] 1 = true := by rfl) : AW p l e R s m args below meth c Q cells slots G nL pc (w0 :: w1 :: w2 :: w3 :: w4 :: w5 :: w6 :: w7 :: w8 :: w9 :: w10 :: w11 :: w12 :: lr) (.int x :: st) sh ν σ :=
  lg_ist h d hl hp k
theorem st_astore_12 (h : Cx p s m args meth c G cc nL own) {w0 w1 w2 w3 w4 w5 w6 w7 w8 w9 w10 w11 w12 : Option Value} {lr : List (Option Value)} {a : Nat} (d : decode cc pc = .ok (.astore 12, 2)) (k : AW p l e R s m args below meth c Q cells slots G nL (pc + 2) (w0 :: w1 :: w2 :: w3 :: w4 :: w5 :: w6 :: w7 :: w8 :: w9 :: w10 :: w11 :: some (.ref a) :: lr) st sh ν σ) (hl : 12 < nL := by decide) (hp : okp [w11] 1 = true := by rfl) : AW p l e R s m args below meth c Q cells slots G nL pc (w0 :: w1 :: w2 :: w3 :: w4 :: w5 :: w6 :: w7 :: w8 :: w9 :: w10 :: w11 :: w12 :: lr) (.ref a :: st) sh ν σ :=
  lg_ast h d hl hp k
theorem st_lstore_12 (h : Cx p s m args meth c G cc nL own) {w0 w1 w2 w3 w4 w5 w6 w7 w8 w9 w10 w11 w12 w13 : Option Value} {lr : List (Option Value)} {x : Int64} (d : decode cc pc = .ok (.lstore 12, 2)) (k : AW p l e R s m args below meth c Q cells slots G nL (pc + 2) (w0 :: w1 :: w2 :: w3 :: w4 :: w5 :: w6 :: w7 :: w8 :: w9 :: w10 :: w11 :: some (.long x) :: none :: lr) st sh ν σ) (hl : 12 + 1 < nL := by decide) (hp : okp [w11] 1 = true := by rfl) : AW p l e R s m args below meth c Q cells slots G nL pc (w0 :: w1 :: w2 :: w3 :: w4 :: w5 :: w6 :: w7 :: w8 :: w9 :: w10 :: w11 :: w12 :: w13 :: lr) (.long x :: st) sh ν σ :=
  lg_lst h d hl hp k
theorem st_iinc_12 (h : Cx p s m args meth c G cc nL own) {w0 w1 w2 w3 w4 w5 w6 w7 w8 w9 w10 w11 : Option Value} {lr : List (Option Value)} {x y : Int32} {n : Int} (d : decode cc pc = .ok (.iinc 12 n, 3)) (hv : x + Int32.ofInt n = y) (k : AW p l e R s m args below meth c Q cells slots G nL (pc + 3) (w0 :: w1 :: w2 :: w3 :: w4 :: w5 :: w6 :: w7 :: w8 :: w9 :: w10 :: w11 :: some (.int y) :: lr) st sh ν σ) (hl : 12 < nL := by decide) (hp : okp [w11] 1 = true := by rfl) : AW p l e R s m args below meth c Q cells slots G nL pc (w0 :: w1 :: w2 :: w3 :: w4 :: w5 :: w6 :: w7 :: w8 :: w9 :: w10 :: w11 :: some (.int x) :: lr) st sh ν σ :=
  lg_iinc h d rfl hv hl hp k
theorem st_iload_13 (h : Cx p s m args meth c G cc nL own) {w0 w1 w2 w3 w4 w5 w6 w7 w8 w9 w10 w11 w12 : Option Value} {lr : List (Option Value)} {x : Int32} (d : decode cc pc = .ok (.iload 13, 2)) (k : AW p l e R s m args below meth c Q cells slots G nL (pc + 2) (w0 :: w1 :: w2 :: w3 :: w4 :: w5 :: w6 :: w7 :: w8 :: w9 :: w10 :: w11 :: w12 :: some (.int x) :: lr) (.int x :: st) sh ν σ) : AW p l e R s m args below meth c Q cells slots G nL pc (w0 :: w1 :: w2 :: w3 :: w4 :: w5 :: w6 :: w7 :: w8 :: w9 :: w10 :: w11 :: w12 :: some (.int x) :: lr) (st) sh ν σ :=
  fun H locs ls hH hS hl => lv_iload h.x h.b d (lh_at (k := 13) (v := .int x) hl rfl) (k H locs ls hH hS hl)
theorem st_aload_13 (h : Cx p s m args meth c G cc nL own) {w0 w1 w2 w3 w4 w5 w6 w7 w8 w9 w10 w11 w12 : Option Value} {lr : List (Option Value)} {a : Nat} (d : decode cc pc = .ok (.aload 13, 2)) (k : AW p l e R s m args below meth c Q cells slots G nL (pc + 2) (w0 :: w1 :: w2 :: w3 :: w4 :: w5 :: w6 :: w7 :: w8 :: w9 :: w10 :: w11 :: w12 :: some (.ref a) :: lr) (.ref a :: st) sh ν σ) : AW p l e R s m args below meth c Q cells slots G nL pc (w0 :: w1 :: w2 :: w3 :: w4 :: w5 :: w6 :: w7 :: w8 :: w9 :: w10 :: w11 :: w12 :: some (.ref a) :: lr) (st) sh ν σ :=
  fun H locs ls hH hS hl => lv_aload h.x h.b d (lh_at (k := 13) (v := .ref a) hl rfl) (k H locs ls hH hS hl)
theorem st_tload_13 (h : Cx p s m args meth c G cc nL own) {w0 w1 w2 w3 w4 w5 w6 w7 w8 w9 w10 w11 w12 : Option Value} {lr : List (Option Value)} {a : Nat} (d : decode cc pc = .ok (.aload 13, 2)) (k : AW p l e R s m args below meth c Q cells slots G nL (pc + 2) (w0 :: w1 :: w2 :: w3 :: w4 :: w5 :: w6 :: w7 :: w8 :: w9 :: w10 :: w11 :: w12 :: some (.retAddr a) :: lr) (.retAddr a :: st) sh ν σ) : AW p l e R s m args below meth c Q cells slots G nL pc (w0 :: w1 :: w2 :: w3 :: w4 :: w5 :: w6 :: w7 :: w8 :: w9 :: w10 :: w11 :: w12 :: some (.retAddr a) :: lr) (st) sh ν σ :=
  fun H locs ls hH hS hl => lv_aload h.x h.b d (lh_at (k := 13) (v := .retAddr a) hl rfl) (k H locs ls hH hS hl)
theorem st_zload_13 (h : Cx p s m args meth c G cc nL own) {w0 w1 w2 w3 w4 w5 w6 w7 w8 w9 w10 w11 w12 : Option Value} {lr : List (Option Value)}  (d : decode cc pc = .ok (.aload 13, 2)) (k : AW p l e R s m args below meth c Q cells slots G nL (pc + 2) (w0 :: w1 :: w2 :: w3 :: w4 :: w5 :: w6 :: w7 :: w8 :: w9 :: w10 :: w11 :: w12 :: some .null :: lr) (.null :: st) sh ν σ) : AW p l e R s m args below meth c Q cells slots G nL pc (w0 :: w1 :: w2 :: w3 :: w4 :: w5 :: w6 :: w7 :: w8 :: w9 :: w10 :: w11 :: w12 :: some .null :: lr) (st) sh ν σ :=
  fun H locs ls hH hS hl => lv_aloadN h.x h.b d (lh_at (k := 13) (v := .null) hl rfl) (k H locs ls hH hS hl)
theorem st_lload_13 (h : Cx p s m args meth c G cc nL own) {w0 w1 w2 w3 w4 w5 w6 w7 w8 w9 w10 w11 w12 : Option Value} {lr : List (Option Value)} {x : Int64} (d : decode cc pc = .ok (.lload 13, 2)) (k : AW p l e R s m args below meth c Q cells slots G nL (pc + 2) (w0 :: w1 :: w2 :: w3 :: w4 :: w5 :: w6 :: w7 :: w8 :: w9 :: w10 :: w11 :: w12 :: some (.long x) :: lr) (.long x :: st) sh ν σ) : AW p l e R s m args below meth c Q cells slots G nL pc (w0 :: w1 :: w2 :: w3 :: w4 :: w5 :: w6 :: w7 :: w8 :: w9 :: w10 :: w11 :: w12 :: some (.long x) :: lr) (st) sh ν σ :=
  fun H locs ls hH hS hl => lv_lload h.x h.b d (lh_at (k := 13) (v := .long x) hl rfl) (k H locs ls hH hS hl)
theorem st_istore_13 (h : Cx p s m args meth c G cc nL own) {w0 w1 w2 w3 w4 w5 w6 w7 w8 w9 w10 w11 w12 w13 : Option Value} {lr : List (Option Value)} {x : Int32} (d : decode cc pc = .ok (.istore 13, 2)) (k : AW p l e R s m args below meth c Q cells slots G nL (pc + 2) (w0 :: w1 :: w2 :: w3 :: w4 :: w5 :: w6 :: w7 :: w8 :: w9 :: w10 :: w11 :: w12 :: some (.int x) :: lr) st sh ν σ) (hl : 13 < nL := by decide) (hp : okp [w12] 1 = true := by rfl) : AW p l e R s m args below meth c Q cells slots G nL pc (w0 :: w1 :: w2 :: w3 :: w4 :: w5 :: w6 :: w7 :: w8 :: w9 :: w10 :: w11 :: w12 :: w13 :: lr) (.int x :: st) sh ν σ :=
  lg_ist h d hl hp k
theorem st_astore_13 (h : Cx p s m args meth c G cc nL own) {w0 w1 w2 w3 w4 w5 w6 w7 w8 w9 w10 w11 w12 w13 : Option Value} {lr : List (Option Value)} {a : Nat} (d : decode cc pc = .ok (.astore 13, 2)) (k : AW p l e R s m args below meth c Q cells slots G nL (pc + 2) (w0 :: w1 :: w2 :: w3 :: w4 :: w5 :: w6 :: w7 :: w8 :: w9 :: w10 :: w11 :: w12 :: some (.ref a) :: lr) st sh ν σ) (hl : 13 < nL := by decide) (hp : okp [w12] 1 = true := by rfl) : AW p l e R s m args below meth c Q cells slots G nL pc (w0 :: w1 :: w2 :: w3 :: w4 :: w5 :: w6 :: w7 :: w8 :: w9 :: w10 :: w11 :: w12 :: w13 :: lr) (.ref a :: st) sh ν σ :=
  lg_ast h d hl hp k
theorem st_lstore_13 (h : Cx p s m args meth c G cc nL own) {w0 w1 w2 w3 w4 w5 w6 w7 w8 w9 w10 w11 w12 w13 w14 : Option Value} {lr : List (Option Value)} {x : Int64} (d : decode cc pc = .ok (.lstore 13, 2)) (k : AW p l e R s m args below meth c Q cells slots G nL (pc + 2) (w0 :: w1 :: w2 :: w3 :: w4 :: w5 :: w6 :: w7 :: w8 :: w9 :: w10 :: w11 :: w12 :: some (.long x) :: none :: lr) st sh ν σ) (hl : 13 + 1 < nL := by decide) (hp : okp [w12] 1 = true := by rfl) : AW p l e R s m args below meth c Q cells slots G nL pc (w0 :: w1 :: w2 :: w3 :: w4 :: w5 :: w6 :: w7 :: w8 :: w9 :: w10 :: w11 :: w12 :: w13 :: w14 :: lr) (.long x :: st) sh ν σ :=
  lg_lst h d hl hp k
theorem st_iinc_13 (h : Cx p s m args meth c G cc nL own) {w0 w1 w2 w3 w4 w5 w6 w7 w8 w9 w10 w11 w12 : Option Value} {lr : List (Option Value)} {x y : Int32} {n : Int} (d : decode cc pc = .ok (.iinc 13 n, 3)) (hv : x + Int32.ofInt n = y) (k : AW p l e R s m args below meth c Q cells slots G nL (pc + 3) (w0 :: w1 :: w2 :: w3 :: w4 :: w5 :: w6 :: w7 :: w8 :: w9 :: w10 :: w11 :: w12 :: some (.int y) :: lr) st sh ν σ) (hl : 13 < nL := by decide) (hp : okp [w12] 1 = true := by rfl) : AW p l e R s m args below meth c Q cells slots G nL pc (w0 :: w1 :: w2 :: w3 :: w4 :: w5 :: w6 :: w7 :: w8 :: w9 :: w10 :: w11 :: w12 :: some (.int x) :: lr) st sh ν σ :=
  lg_iinc h d rfl hv hl hp k
end AWS
