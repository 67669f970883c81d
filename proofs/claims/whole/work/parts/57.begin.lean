/-! A YEAR BUT FOR ITS NEW PRICES -/
theorem YR_Q {σ : Sto} {y n : Nat} {μ : Nat → Int} (h : YR σ y μ n) : YQ σ y μ n := ⟨fun s hs => ⟨(h.1 s hs).1, (h.1 s hs).2.2⟩, h.2⟩
theorem yq_rate {σ : Sto} {y n : Nat} {μ : Nat → Int} (hy : yC y) (h : YQ σ y μ n) : F_X10_rate σ y = some (zI (ra μ)) := by
  unfold F_X10_rate
  rw [if_pos hy.1, show ix 0 = 0 from by decide, show ix 1 = 1 from by decide, h.2.1 0 (by omega), h.2.1 1 (by omega), zl100, zI_add, zI_sub]
  rfl
theorem yq_pr {σ : Sto} {y n c : Nat} {μ : Nat → Int} (h : YQ σ y μ n) (g : Gd μ n c) : ∀ s, s < n → σ.1 (y + 1) s = zI (μ (7 * s)) ∧ 0 ≤ μ (7 * s) ∧ μ (7 * s) ≤ 20 :=
  fun s hs => ⟨(h.1 s hs).1, (g.2.2.1 s hs).1⟩
theorem yq_base {σ : Sto} {y t n c : Nat} {μ : Nat → Int} (hy : yC y) (ht : tC t) (h : YQ σ y μ n) (k : TR σ t μ n) (g : Gd μ n c) : F_X9_costing σ t (y + 1) (y + 1) = some (zI (ba μ n)) := by
  rw [t_costing ht.1 hy.2.1 hy.2.1 k.1.1 g.1.2.1 (fun s hs => (h.1 s hs).1) (yq_pr h g) (t_bo k)]
  congr 2
  exact sz_cg (fun s hs => by rw [we_nat g hs])
theorem yq_weight {σ : Sto} {y t n c : Nat} {μ : Nat → Int} (hy : yC y) (ht : tC t) (h : YQ σ y μ n) (k : TR σ t μ n) (g : Gd μ n c) {s : Nat} (hs : s < n) : F_X10_weight σ y t (zI s) = some (zI (we μ s)) := by
  have h4 := g.1.2.1
  obtain ⟨e1, e2, e3⟩ := yq_pr h g s hs
  have hb := t_bo k s hs (μ (7 * s)).toNat (by omega)
  unfold F_X10_weight
  rw [if_pos hy.1, if_pos ht.1]
  simp (disch := omega) only [zI_ib, zI_ix, Int.toNat_natCast, e1, zl21, zI_mul, zI_add]
  rw [if_pos (by omega), if_pos (by omega), show ((s : Int) * 21 + μ (7 * s)).toNat = 21 * s + (μ (7 * s)).toNat by omega, hb, we_nat g hs]
theorem yq_dues1 {σ : Sto} {y t n c : Nat} {μ : Nat → Int} (hy : yC y) (ht : tC t) (h : YQ σ y μ n) (k : TV σ t μ n) (g : Gd μ n c) {s : Nat} (hs : s < n) : F_X10_duesOf σ y t (zI s) = some (zI (du1 μ s)) := by
  have h4 := g.1.2.1
  obtain ⟨-, -, -, d⟩ := g.2.1 s hs
  obtain ⟨-, -, e⟩ := g.2.2.1 s hs
  unfold F_X10_duesOf
  rw [if_pos ht.1, t_v5 ht.1 k h4 hs, Option.bind_some, if_pos hy.1, show ix 3 = 3 from by decide, h.2.1 3 (by omega)]
  simp (disch := omega) only [zI_ib, zI_ix, Int.toNat_natCast, (h.1 s hs).2, zI_sub, zl0, zI_lt]
  rw [if_pos (by omega)]
  unfold du1
  split
  · rw [show max 0 (μ (7 * s + 6) - μ (7 * s + 5)) = μ (7 * s + 6) - μ (7 * s + 5) by omega, zI_mul]
  · rw [show max 0 (μ (7 * s + 6) - μ (7 * s + 5)) = 0 by omega, zI_mul]
theorem yq_dues {σ : Sto} {y t n c : Nat} {μ : Nat → Int} (hy : yC y) (ht : tC t) (h : YQ σ y μ n) (k : TV σ t μ n) (g : Gd μ n c) : F_X10_dues σ y t = some (zI (du μ n)) := by
  have h4 := g.1.2.1
  rw [F_X10_dues, zl0]
  refine sum_loop (L := fun k a i => F_X10_dues_4 k σ y t a i) (R := fun z => some (zI z)) (f := fun s => du1 μ s) (fun q acc i hi _ => ?_) (fun q => ?_) FU (FU_lt (by omega))
  · simp only [F_X10_dues_4, ht.1, hy.1, k.1, if_true]
    simp (disch := omega) only [zI_le]
    rw [if_neg (by omega), yq_dues1 hy ht h k g hi, Option.bind_some, zl1, zI_add, zI_add]
  · simp only [F_X10_dues_4, ht.1, k.1, if_true]
    rw [if_pos (Int32.le_refl _)]
theorem yq_allowedWith {σ : Sto} {y t n c : Nat} {μ : Nat → Int} (hy : yC y) (ht : tC t) (h : YQ σ y μ n) (k : TR σ t μ n) (g : Gd μ n c) {d : Int} (hd : 0 ≤ d ∧ d ≤ 1000000) : F_X10_allowedWith σ y t (zI d) = some (zI (alw μ n d)) := by
  have a := rb_bd g
  have b := rd_bd g
  have e := g.2.2.2.2.2.2.2
  have hc := g.1.2.2
  unfold F_X10_allowedWith
  rw [if_pos hy.1, if_pos ht.1, yq_base hy ht h k g, Option.bind_some, yq_rate hy h, Option.bind_some, h.2.2, zI_mul, zl100, zI_div (by omega) (by omega) (by omega) (by omega), zI_add, zI_sub, zl0]
  simp (disch := omega) only [zI_lt]
  unfold alw
  split
  · rw [show max 0 ((ra μ * ba μ n).tdiv 100 + μ 33 - d) = (ra μ * ba μ n).tdiv 100 + μ 33 - d by omega]
  · rw [show max 0 ((ra μ * ba μ n).tdiv 100 + μ 33 - d) = 0 by omega]
theorem yq_allowed {σ : Sto} {y t n c : Nat} {μ : Nat → Int} (hy : yC y) (ht : tC t) (h : YQ σ y μ n) (k : TR σ t μ n) (g : Gd μ n c) : F_X10_allowed σ y t = some (zI (al μ n)) := by
  have d := du_bd g
  unfold F_X10_allowed
  rw [if_pos hy.1, yq_dues hy ht h k.1 g, Option.bind_some, yq_allowedWith hy ht h k g (by omega), Option.bind_some]
  rfl
/-! THE CLASS'S SEARCH: ITS BEGINNING -/
def BgF (σ τ : Sto) : Prop := (∀ a, ¬ (63 ≤ a ∧ a ≤ 74) → τ.1 a = σ.1 a) ∧ τ.2 = σ.2
theorem BgF_rfl (σ : Sto) : BgF σ σ := ⟨fun _ _ => rfl, rfl⟩
theorem BgF_tr {σ τ υ : Sto} (h : BgF σ τ) (k : BgF τ υ) : BgF σ υ := ⟨fun a q => (k.1 a q).trans (h.1 a q), k.2.trans h.2⟩
theorem BgF_si (σ : Sto) (a k : Nat) (x : Int32) (h : 63 ≤ a ∧ a ≤ 74) : BgF σ (si σ a k x) := ⟨fun b q => by funext j; rw [si_rd, if_neg (by omega)], rfl⟩
theorem YQ_b {σ τ : Sto} {y n : Nat} {μ : Nat → Int} (f : BgF σ τ) (hy : ¬ (59 ≤ y ∧ y ≤ 74)) (h : YQ σ y μ n) : YQ τ y μ n := by
  unfold YQ at *
  rw [f.1 (y + 1) (by omega), f.1 (y + 3) (by omega), f.1 (y + 4) (by omega), f.1 y (by omega)]
  exact h
theorem TR_b {σ τ : Sto} {t n : Nat} {μ : Nat → Int} (f : BgF σ τ) (ht : 75 ≤ t) (h : TR σ t μ n) : TR τ t μ n := by
  unfold TR TV at *
  rw [f.1 t (by omega), f.1 (t + 2) (by omega), f.1 (t + 5) (by omega), f.1 (t + 6) (by omega), f.1 (t + 7) (by omega)]
  exact h
def rmc (μ : Nat → Int) (n : Nat) (un : Nat → Nat → Int) : Nat → Int := fun c => if c = 0 then min (al μ n) (sz n (fun s => we μ s * 20)) else sz n (fun s => un (c - 1) s * μ (7 * s))
theorem s_begin {σ : Sto} {y t n c : Nat} {μ : Nat → Int} (un : Nat → Nat → Int) (hy : yC y) (hy2 : ¬ (59 ≤ y ∧ y ≤ 74)) (ht : tC t) (ht2 : 75 ≤ t) (h : YQ σ y μ n) (k : TR σ t μ n) (g : Gd μ n c) : ∃ τ, F_X8_begin σ t y = some τ ∧ BgF σ τ ∧ SrD τ n 1 (lds μ un) lo0 hi0 ∧ SrR τ 1 (rmc μ n un) := by
  have h4 := g.1.2.1
  have A := al_bd0 g
  have key : ∀ (m s j : Nat) (τ : Sto), s + m = n → m < j → BgF σ τ → τ.1 63 0 = zI n → τ.1 63 1 = zI 1 → (∀ u, u < s → τ.1 64 u = zI (we μ u) ∧ τ.1 66 u = zI 0 ∧ τ.1 67 u = zI 20) → ∃ υ, F_X8_begin_18 j τ t y (zI (sz s (fun s => we μ s * 20))) (zI s) = some υ ∧ BgF σ υ ∧ SrD υ n 1 (lds μ un) lo0 hi0 ∧ SrR υ 1 (rmc μ n un) := by
    intro m
    induction m with
    | zero =>
      intro s j τ k1 k2 f e0 e1 cs
      obtain ⟨j, rfl⟩ : ∃ i, j = i + 1 := ⟨j - 1, by omega⟩
      have e : s = n := k1
      subst e
      have sb := sz_bd (n := s) (f := fun s => we μ s * 20) (a := 0) (b := 4000) (fun s hs => by have := we_bd g hs; omega)
      rw [F_X8_begin_18, e0, if_pos (zleT (by omega)), if_pos hy.1, yq_allowed hy ht (YQ_b f hy2 h) (TR_b f ht2 k) g, Option.bind_some, sw, show ix 0 = 0 from by decide]
      refine ⟨_, rfl, BgF_tr f (BgF_si _ 65 _ _ (by omega)), ⟨?_, ?_, fun c hc s hs => ?_, fun s hs => ?_⟩, fun c hc => ?_⟩
      · rw [si_rd, if_neg (by omega)]; exact e0
      · rw [si_rd, if_neg (by omega)]; exact e1
      · rw [si_rd, if_neg (by omega), show 4 * c + s = s by omega, show c = 0 by omega]; exact (cs s hs).1
      · rw [si_rd, if_neg (by omega), si_rd, if_neg (by omega)]; exact (cs s hs).2
      · rw [show c = 0 by omega, si_rd, if_pos ⟨rfl, rfl⟩]
        show _ = zI (min (al μ s) (sz s (fun s => we μ s * 20)))
        by_cases q : sz s (fun s => we μ s * 20) < al μ s
        · rw [if_pos (zltT (by omega))]; congr 1; omega
        · rw [if_neg (zltF (by omega))]; congr 1; omega
    | succ m ih =>
      intro s j τ k1 k2 f e0 e1 cs
      obtain ⟨j, rfl⟩ : ∃ i, j = i + 1 := ⟨j - 1, by omega⟩
      have hs : s < n := by omega
      rw [F_X8_begin_18, e0, if_neg (zleF (by omega)), if_pos hy.1, yq_weight hy ht (YQ_b f hy2 h) (TR_b f ht2 k) g hs, Option.bind_some]
      simp (disch := omega) only [zI_ib, zI_ix, Int.toNat_natCast]
      rw [if_pos (by omega), sw, if_pos (by omega), sw, sw, sw, show (si (si (si τ 64 s (zI (we μ s))) 66 s 0) 67 s 20).1 64 s = zI (we μ s) from by rw [si_rd, if_neg (by omega), si_rd, if_neg (by omega), si_rd, if_pos ⟨rfl, rfl⟩], show zI (sz s (fun s => we μ s * 20)) + zI (we μ s) * 20 = zI (sz (s + 1) (fun s => we μ s * 20)) from by rw [zl20, zI_mul, zI_add, sz], zI_s1]
      refine ih (s + 1) j _ (by omega) (by omega) (BgF_tr f (BgF_tr (BgF_si _ 64 _ _ (by omega)) (BgF_tr (BgF_si _ 66 _ _ (by omega)) (BgF_si _ 67 _ _ (by omega))))) ?_ ?_ (fun u hu => ?_)
      · rw [si_rd, if_neg (by omega), si_rd, if_neg (by omega), si_rd, if_neg (by omega)]; exact e0
      · rw [si_rd, if_neg (by omega), si_rd, if_neg (by omega), si_rd, if_neg (by omega)]; exact e1
      · by_cases q : u = s
        · subst q
          simp (disch := omega) only [si_rd, if_neg, if_pos, and_self, if_true]
          exact ⟨trivial, rfl, rfl⟩
        · simp (disch := omega) only [si_rd, if_neg]
          exact cs u (by omega)
  unfold F_X8_begin
  rw [if_pos ht.1, sw, sw, k.1.1]
  exact key n 0 FU _ (by omega) (FU_lt (by omega)) (BgF_tr (BgF_si _ 63 _ _ (by omega)) (BgF_si _ 63 _ _ (by omega))) (by rw [si_rd, if_neg (by omega), si_rd, if_pos ⟨rfl, rfl⟩]) (by rw [si_rd, if_pos ⟨rfl, rfl⟩]; rfl) (fun u hu => by omega)
theorem rmc_bd {μ : Nat → Int} {n nb c : Nat} {un : Nat → Nat → Int} (g : Gd μ n c) (ub : ∀ b, b < nb → ∀ s, s < n → 0 ≤ un b s ∧ un b s ≤ 99) : ∀ e, e < 1 + nb → 0 ≤ rmc μ n un e ∧ rmc μ n un e ≤ 16000 := by
  intro e he
  have h4 := g.1.2.1
  have A := al_bd0 g
  unfold rmc
  by_cases q : e = 0
  · rw [if_pos q]
    have sb := sz_bd (n := n) (f := fun s => we μ s * 20) (a := 0) (b := 4000) (fun s hs => by have := we_bd g hs; omega)
    omega
  · rw [if_neg q]
    have := sz_bd (n := n) (f := fun s => un (e - 1) s * μ (7 * s)) (a := 0) (b := 1980) (fun s hs => mul_bd (a := 99) (b := 20) (ub (e - 1) (by omega) s hs).1 (ub (e - 1) (by omega) s hs).2 (g.2.2.1 s hs).1.1 (g.2.2.1 s hs).1.2)
    omega
theorem rmc_fe {μ : Nat → Int} {n c L : Nat} {un : Nat → Nat → Int} {lo hi : Nat → Int} (g : Gd μ n c) (hL : 1 ≤ L) (hh : ∀ s, s < n → hi s ≤ 20) (q0 : Nat → Int) : Fea n L (lds μ un) (rmc μ n un) lo hi q0 ↔ Fea n L (lds μ un) (rms μ n un) lo hi q0 := by
  constructor
  · rintro ⟨h1, h2⟩
    refine ⟨h1, fun e he => ?_⟩
    have := h2 e he
    unfold rmc at this
    unfold rms
    by_cases q : e = 0
    · rw [if_pos q] at this ⊢; omega
    · rw [if_neg q] at this ⊢; exact this
  · rintro ⟨h1, h2⟩
    refine ⟨h1, fun e he => ?_⟩
    have := h2 e he
    unfold rms at this
    unfold rmc
    by_cases q : e = 0
    · rw [if_pos q] at this ⊢
      have : sz n (fun s => lds μ un e s * q0 s) ≤ sz n (fun s => we μ s * 20) := sz_le (fun s hs => by
        have a := h1 s hs
        have b := hh s hs
        rw [show lds μ un e s = we μ s from by rw [q]; rfl]
        exact Int.mul_le_mul_of_nonneg_left (by omega) (we_bd g hs).1)
      omega
    · rw [if_neg q] at this ⊢; exact this
theorem s_near {σ : Sto} {a n L : Nat} {μ : Nat → Int} {ld : Nat → Nat → Int} {d : Int} (h4 : n ≤ 4) (ha : shC a = (20, 4)) (ha2 : ¬ (63 ≤ a ∧ a ≤ 74)) (hd : 0 ≤ d ∧ d ≤ 20) (hp : ∀ s, s < n → σ.1 a s = zI (μ (7 * s)) ∧ 0 ≤ μ (7 * s) ∧ μ (7 * s) ≤ 20) {lo hi : Nat → Int} (D : SrD σ n L ld lo hi) : ∃ τ, F_X8_holdNear σ a (zI d) = some τ ∧ BgF σ τ ∧ τ.1 65 = σ.1 65 ∧ SrD τ n L ld (loD μ d) (hiD μ d) := by
  have key : ∀ (m s k : Nat) (τ : Sto), s + m = n → m < k → (∀ b, b ≠ 66 → b ≠ 67 → τ.1 b = σ.1 b) → τ.2 = σ.2 → (∀ u, u < s → τ.1 66 u = zI (loD μ d u) ∧ τ.1 67 u = zI (hiD μ d u)) → ∃ υ, F_X8_holdNear_2 k τ a (zI d) (zI s) = some υ ∧ BgF σ υ ∧ υ.1 65 = σ.1 65 ∧ SrD υ n L ld (loD μ d) (hiD μ d) := by
    intro m
    induction m with
    | zero =>
      intro s k τ k1 k2 f f2 cs
      obtain ⟨k, rfl⟩ : ∃ j, k = j + 1 := ⟨k - 1, by omega⟩
      have e : s = n := k1
      subst e
      refine ⟨τ, ?_, ⟨fun b hb => f b (by omega) (by omega), f2⟩, f 65 (by decide) (by decide), ⟨?_, ?_, ?_, cs⟩⟩
      · rw [F_X8_holdNear_2, f 63 (by decide) (by decide), D.1, if_pos (zleT (by omega))]
      · rw [f 63 (by decide) (by decide)]; exact D.1
      · rw [f 63 (by decide) (by decide)]; exact D.2.1
      · rw [f 64 (by decide) (by decide)]; exact D.2.2.1
    | succ m ih =>
      intro s k τ k1 k2 f f2 cs
      obtain ⟨k, rfl⟩ : ∃ j, k = j + 1 := ⟨k - 1, by omega⟩
      have hs : s < n := by omega
      obtain ⟨p1, p2, p3⟩ := hp s hs
      rw [F_X8_holdNear_2, f 63 (by decide) (by decide), D.1, if_neg (zleF (by omega)), if_pos ha]
      simp (disch := omega) only [zI_ib, zI_ix, Int.toNat_natCast]
      rw [if_pos (by omega), sw, sw, f a (by omega) (by omega), p1, zI_sub]
      have e1 : (if 0 < zI (μ (7 * s) - d) then zI (μ (7 * s) - d) else 0) = zI (loD μ d s) := by
        unfold loD
        rw [zl0]
        by_cases q : 0 < μ (7 * s) - d
        · rw [if_pos (zltT (by omega))]; congr 1; omega
        · rw [if_neg (zltF (by omega))]; congr 1; omega
      have e2 : (si τ 66 s (zI (loD μ d s))).1 a s = zI (μ (7 * s)) := by rw [si_rd, if_neg (by omega), f a (by omega) (by omega), p1]
      have e3 : (if zI (μ (7 * s) + d) < 20 then zI (μ (7 * s) + d) else 20) = zI (hiD μ d s) := by
        unfold hiD
        rw [zl20]
        by_cases q : μ (7 * s) + d < 20
        · rw [if_pos (zltT (by omega))]; congr 1; omega
        · rw [if_neg (zltF (by omega))]; congr 1; omega
      rw [e1, e2, zI_add, e3, zI_s1]
      refine ih (s + 1) k _ (by omega) (by omega) (fun b h1 h2 => ?_) f2 (fun u hu => ?_)
      · rw [← f b h1 h2]; funext j; rw [si_rd, if_neg (by omega), si_rd, if_neg (by omega)]
      · by_cases q : u = s
        · subst q
          rw [si_rd, if_neg (by omega), si_rd, if_pos ⟨rfl, rfl⟩, si_rd, if_pos ⟨rfl, rfl⟩]
          exact ⟨rfl, rfl⟩
        · rw [si_rd, if_neg (by omega), si_rd, if_neg (by omega), si_rd, if_neg (by omega), si_rd, if_neg (by omega)]
          exact cs u (by omega)
  unfold F_X8_holdNear
  rw [zl0]
  exact key n 0 FU σ (by omega) (FU_lt (by omega)) (fun _ _ _ => rfl) rfl (fun u hu => by omega)
theorem s_addB {σ : Sto} {y t n b c : Nat} {μ : Nat → Int} {un : Nat → Nat → Int} (hy : yC y) (hy2 : ¬ (59 ≤ y ∧ y ≤ 74)) (ht : tC t) (ht2 : 75 ≤ t) (h : YQ σ y μ n) (k : TR σ t μ n) (g : Gd μ n c) (hb : b < 4) (hw : ∀ s, s < n → σ.1 (t + 3) (4 * b + s) = zI (un b s)) (D : SrD σ n (1 + b) (lds μ un) lo0 hi0) (R : SrR σ (1 + b) (rmc μ n un)) : ∃ τ, F_X8_addBuyer σ t y (zI b) = some τ ∧ BgF σ τ ∧ SrD τ n (1 + (b + 1)) (lds μ un) lo0 hi0 ∧ SrR τ (1 + (b + 1)) (rmc μ n un) := by
  have h4 := g.1.2.1
  have key : ∀ (m s j : Nat) (τ : Sto), s + m = n → m < j → (∀ a, a ≠ 64 → τ.1 a = σ.1 a) → τ.2 = σ.2 → (∀ i, i < 4 * (1 + b) → τ.1 64 i = σ.1 64 i) → (∀ u, u < s → τ.1 64 (4 * (1 + b) + u) = zI (un b u)) → ∃ υ, F_X8_addBuyer_12 j τ t y (zI b) (zI s) = some υ ∧ BgF σ υ ∧ SrD υ n (1 + (b + 1)) (lds μ un) lo0 hi0 ∧ SrR υ (1 + (b + 1)) (rmc μ n un) := by
    intro m
    induction m with
    | zero =>
      intro s j τ k1 k2 f f2 c1 c2
      obtain ⟨j, rfl⟩ : ∃ i, j = i + 1 := ⟨j - 1, by omega⟩
      have e : s = n := k1
      subst e
      have fb : BgF σ τ := ⟨fun a ha => f a (by omega), f2⟩
      have bb := t_burden (σ := τ) (t := t) (a := y + 1) (n := s) (nb := 4) (b := b) (un := un) (p := fun s => μ (7 * s)) ht.1 hy.2.1 (by rw [f t (by omega)]; exact k.1.1) h4 hb (by omega) (fun u hu => by rw [f (t + 3) (by omega)]; exact hw u hu) (fun u hu => by rw [fb.1 (y + 1) (by omega)]; exact (h.1 u hu).1)
      rw [F_X8_addBuyer_12, f 63 (by decide), D.1, if_pos (zleT (by omega)), if_pos hy.1, if_pos ht.1, bb, Option.bind_some, D.2.1]
      simp (disch := omega) only [zI_ib, zI_ix, Int.toNat_natCast]
      rw [if_pos (by omega), sw, sw, show (si τ 65 (1 + b) (zI (sz s (fun s => un b s * μ (7 * s))))).1 63 1 = zI ((1 + b : Nat) : Int) from by rw [si_rd, if_neg (by omega), f 63 (by decide)]; exact D.2.1, zI_s1]
      refine ⟨_, rfl, BgF_tr fb (BgF_tr (BgF_si _ 65 _ _ (by omega)) (BgF_si _ 63 _ _ (by omega))), ⟨?_, ?_, fun c hc u hu => ?_, fun u hu => ?_⟩, fun c hc => ?_⟩
      · rw [si_rd, if_neg (by omega), si_rd, if_neg (by omega), f 63 (by decide)]; exact D.1
      · rw [si_rd, if_pos ⟨rfl, rfl⟩]
        rfl
      · rw [si_rd, if_neg (by omega), si_rd, if_neg (by omega)]
        by_cases q : c = 1 + b
        · rw [q, c2 u hu]
          unfold lds
          rw [if_neg (by omega), show 1 + b - 1 = b by omega]
        · rw [c1 _ (by omega)]; exact D.2.2.1 c (by omega) u hu
      · rw [si_rd, if_neg (by omega), si_rd, if_neg (by omega), si_rd, if_neg (by omega), si_rd, if_neg (by omega), f 66 (by decide), f 67 (by decide)]; exact D.2.2.2 u hu
      · rw [si_rd, if_neg (by omega), si_rd]
        by_cases q : c = 1 + b
        · rw [if_pos ⟨rfl, q⟩, q]
          unfold rmc
          rw [if_neg (by omega), show 1 + b - 1 = b by omega]
        · rw [if_neg (by omega), f 65 (by decide)]; exact R c (by omega)
    | succ m ih =>
      intro s j τ k1 k2 f f2 c1 c2
      obtain ⟨j, rfl⟩ : ∃ i, j = i + 1 := ⟨j - 1, by omega⟩
      rw [F_X8_addBuyer_12, f 63 (by decide), D.1, if_neg (zleF (by omega)), if_pos ht.1, D.2.1]
      simp (disch := omega) only [zl4, zI_mul, zI_add, zI_ib, zI_ix, Int.toNat_natCast]
      rw [if_pos (by omega), if_pos (by omega), sw, f (t + 3) (by omega), show ((b : Int) * 4 + s).toNat = 4 * b + s by omega, show ((((1 + b : Nat) : Int)) * 4 + s).toNat = 4 * (1 + b) + s by omega, hw s (by omega), zI_s1]
      refine ih (s + 1) j _ (by omega) (by omega) (fun a ha => ?_) f2 (fun i hi => ?_) (fun u hu => ?_)
      · rw [← f a ha]; funext j; rw [si_rd, if_neg (by omega)]
      · rw [si_rd, if_neg (by omega)]; exact c1 i hi
      · rw [si_rd]
        by_cases q : u = s
        · rw [if_pos ⟨rfl, by omega⟩, q]
        · rw [if_neg (by omega)]; exact c2 u (by omega)
  unfold F_X8_addBuyer
  rw [D.2.1, zl5, if_pos (zltT (by omega)), zl0]
  exact key n 0 FU σ (by omega) (FU_lt (by omega)) (fun _ _ => rfl) rfl (fun _ _ => rfl) (fun u hu => by omega)
/-- the four searches, from their beginnings -/
theorem FnR_fe {τ : Sto} {a2 n L : Nat} {ld : Nat → Nat → Int} {R R' lo hi : Nat → Int} {w : Nat → Nat → Int} (e : ∀ q, Fea n L ld R lo hi q ↔ Fea n L ld R' lo hi q) (h : FnR τ a2 n L ld R lo hi w) : FnR τ a2 n L ld R' lo hi w := by
  obtain ⟨h1, h2⟩ := h
  refine ⟨h1, ?_⟩
  rcases h2 with ⟨h2, h3⟩ | ⟨h2, q, h3, h4⟩
  · exact Or.inl ⟨h2, fun q hq => h3 q ((e q).2 hq)⟩
  · exact Or.inr ⟨h2, q, Opt_fe e h3, h4⟩
theorem FnF_b {σ τ υ : Sto} {a2 : Nat} (f : BgF σ τ) (h : FnF τ υ a2) : FnF σ υ a2 := ⟨fun a i1 i2 i3 => (h.1 a i1 i2 i3).trans (f.1 a i1), h.2.trans f.2⟩
theorem lds_bd {μ : Nat → Int} {n nb c : Nat} {un : Nat → Nat → Int} (g : Gd μ n c) (ub : ∀ b, b < nb → ∀ s, s < n → 0 ≤ un b s ∧ un b s ≤ 99) : ∀ e, e < 1 + nb → ∀ s, s < n → 0 ≤ lds μ un e s ∧ lds μ un e s ≤ 200 := by
  intro e he s hs
  unfold lds
  by_cases q : e = 0
  · rw [if_pos q]; exact we_bd g hs
  · rw [if_neg q]
    have := ub (e - 1) (by omega) s hs
    omega
theorem h0b (s : Nat) : 0 ≤ lo0 s ∧ lo0 s ≤ hi0 s ∧ hi0 s ≤ 20 := by unfold lo0 hi0; decide
theorem c_plain {σ : Sto} {y t n c a2 : Nat} {μ : Nat → Int} (hy : yC y) (hy2 : ¬ (59 ≤ y ∧ y ≤ 74)) (ht : tC t) (ht2 : 102 ≤ t) (h : YQ σ y μ n) (k : TR σ t μ n) (g : Gd μ n c) (h7 : (shC a2).1 = 7) (h2 : 75 ≤ a2 ∧ a2 ≤ 85) : ∃ x1, F_X8_begin σ t y = some x1 ∧ (∃ τ, F_X8_find x1 (t + 6) a2 = some τ ∧ FnF σ τ a2 ∧ FnR τ a2 n 1 (lds μ fun _ _ => 0) (rms μ n fun _ _ => 0) lo0 hi0 (prw μ)) ∧ ∃ τ, F_X8_find x1 (t + 7) a2 = some τ ∧ FnF σ τ a2 ∧ FnR τ a2 n 1 (lds μ fun _ _ => 0) (rms μ n fun _ _ => 0) lo0 hi0 (gow μ) := by
  obtain ⟨x1, b1, b2, b3, b4⟩ := s_begin (fun _ _ => 0) hy hy2 ht (by omega) h k g
  have k1 := TR_b b2 (by omega) k
  have rb := rmc_bd (nb := 0) (un := fun _ _ => 0) g (fun b hb => by omega)
  have lb := lds_bd (nb := 0) (un := fun _ _ => 0) g (fun b hb => by omega)
  refine ⟨x1, b1, ?_, ?_⟩
  · obtain ⟨τ, t1, t2, t3⟩ := s_find (w := prw μ) ⟨⟨g.1.1, g.1.2.1⟩, by omega, lb, fun s hs => h0b s, Ig_bd g.2.1 (Or.inl ⟨rfl, rfl⟩)⟩ b3 b4 rb ht.2.2.1 (by omega) (t_pr k1) h7 h2
    exact ⟨τ, t1, FnF_b b2 t2, FnR_fe (rmc_fe g (by omega) (fun s hs => Int.le_refl _)) t3⟩
  · obtain ⟨τ, t1, t2, t3⟩ := s_find (w := gow μ) ⟨⟨g.1.1, g.1.2.1⟩, by omega, lb, fun s hs => h0b s, Ig_bd g.2.1 (Or.inr ⟨rfl, rfl⟩)⟩ b3 b4 rb ht.2.2.2 (by omega) (t_go k1) h7 h2
    exact ⟨τ, t1, FnF_b b2 t2, FnR_fe (rmc_fe g (by omega) (fun s hs => Int.le_refl _)) t3⟩
theorem c_near {σ : Sto} {y t n c a2 : Nat} {μ : Nat → Int} {d : Int} (hy : yC y) (hy2 : ¬ (59 ≤ y ∧ y ≤ 74)) (ht : tC t) (ht2 : 102 ≤ t) (h : YQ σ y μ n) (k : TR σ t μ n) (g : Gd μ n c) (h7 : (shC a2).1 = 7) (h2 : 75 ≤ a2 ∧ a2 ≤ 85) (hd : 0 ≤ d ∧ d ≤ 20) : ∃ x1, F_X8_begin σ t y = some x1 ∧ ∃ x2, F_X8_holdNear x1 (y + 1) (zI d) = some x2 ∧ ∃ τ, F_X8_find x2 (t + 6) a2 = some τ ∧ FnF σ τ a2 ∧ FnR τ a2 n 1 (lds μ fun _ _ => 0) (rms μ n fun _ _ => 0) (loD μ d) (hiD μ d) (prw μ) := by
  obtain ⟨x1, b1, b2, b3, b4⟩ := s_begin (fun _ _ => 0) hy hy2 ht (by omega) h k g
  obtain ⟨x2, c1, c2, c3, c4⟩ := s_near (μ := μ) g.1.2.1 hy.2.1 (by omega) hd (fun s hs => by rw [b2.1 (y + 1) (by omega)]; exact yq_pr h g s hs) b3
  have k1 := TR_b (BgF_tr b2 c2) (by omega) k
  have rb := rmc_bd (nb := 0) (un := fun _ _ => 0) g (fun b hb => by omega)
  have lb := lds_bd (nb := 0) (un := fun _ _ => 0) g (fun b hb => by omega)
  have b5 : SrR x2 1 (rmc μ n fun _ _ => 0) := fun e he => by rw [c3]; exact b4 e he
  refine ⟨x1, b1, x2, c1, ?_⟩
  obtain ⟨τ, t1, t2, t3⟩ := s_find (w := prw μ) ⟨⟨g.1.1, g.1.2.1⟩, by omega, lb, fun s hs => by have := (g.2.2.1 s hs).1; unfold loD hiD; omega, Ig_bd g.2.1 (Or.inl ⟨rfl, rfl⟩)⟩ c4 b5 rb ht.2.2.1 (by omega) (t_pr k1) h7 h2
  exact ⟨τ, t1, FnF_b (BgF_tr b2 c2) t2, FnR_fe (rmc_fe g (by omega) (fun s hs => by unfold hiD; omega)) t3⟩
theorem c_gentle {σ : Sto} {y t n nb c : Nat} {μ : Nat → Int} {un : Nat → Nat → Int} (hy : yC y) (hy2 : ¬ (59 ≤ y ∧ y ≤ 74)) (ht : tC t) (ht2 : 102 ≤ t) (h : YQ σ y μ n) (k : TR σ t μ n) (g : Gd μ n c) (hnb : nb ≤ 4) (h1 : σ.1 t 1 = zI nb) (hw : ∀ b, b < nb → ∀ s, s < n → σ.1 (t + 3) (4 * b + s) = zI (un b s)) (ub : ∀ b, b < nb → ∀ s, s < n → 0 ≤ un b s ∧ un b s ≤ 99) : ∃ x1, F_X8_begin σ t y = some x1 ∧ ∃ τ, F_X2_findGentle_21 FU x1 t y 0 = some (80, τ) ∧ FnF σ τ 80 ∧ FnR τ 80 n (1 + nb) (lds μ un) (rms μ n un) lo0 hi0 (prw μ) := by
  obtain ⟨x1, b1, b2, b3, b4⟩ := s_begin un hy hy2 ht (by omega) h k g
  refine ⟨x1, b1, ?_⟩
  have key : ∀ (m b j : Nat) (τ : Sto), b + m = nb → m < j → BgF σ τ → SrD τ n (1 + b) (lds μ un) lo0 hi0 → SrR τ (1 + b) (rmc μ n un) → ∃ υ, F_X2_findGentle_21 j τ t y (zI b) = some (80, υ) ∧ FnF σ υ 80 ∧ FnR υ 80 n (1 + nb) (lds μ un) (rms μ n un) lo0 hi0 (prw μ) := by
    intro m
    induction m with
    | zero =>
      intro b j τ k1 k2 f D R
      obtain ⟨j, rfl⟩ : ∃ i, j = i + 1 := ⟨j - 1, by omega⟩
      have e : b = nb := k1
      subst e
      have kt := TR_b f (by omega) k
      obtain ⟨υ, t1, t2, t3⟩ := s_find (w := prw μ) (a2 := 80) ⟨⟨g.1.1, g.1.2.1⟩, by omega, lds_bd g ub, fun s hs => h0b s, Ig_bd g.2.1 (Or.inl ⟨rfl, rfl⟩)⟩ D R (rmc_bd g ub) ht.2.2.1 (by omega) (t_pr kt) (by decide) (by omega)
      refine ⟨υ, ?_, FnF_b f t2, FnR_fe (rmc_fe g (by omega) (fun s hs => Int.le_refl _)) t3⟩
      rw [F_X2_findGentle_21, if_pos ht.1, f.1 t (by omega), h1, if_pos (zleT (by omega)), t1, Option.bind_some]
    | succ m ih =>
      intro b j τ k1 k2 f D R
      obtain ⟨j, rfl⟩ : ∃ i, j = i + 1 := ⟨j - 1, by omega⟩
      obtain ⟨υ, u1, u2, u3, u4⟩ := s_addB hy hy2 ht (by omega) (YQ_b f hy2 h) (TR_b f (by omega) k) g (show b < 4 by omega) (fun s hs => by rw [f.1 (t + 3) (by omega)]; exact hw b (by omega) s hs) D R
      rw [F_X2_findGentle_21, if_pos ht.1, f.1 t (by omega), h1, if_neg (zleF (by omega)), u1, Option.bind_some, zI_s1]
      exact ih (b + 1) j υ (by omega) (by omega) (BgF_tr f u2) u3 u4
  exact key nb 0 FU x1 (by omega) (FU_lt (by omega)) b2 b3 b4
