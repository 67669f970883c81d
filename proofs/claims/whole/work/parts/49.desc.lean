/-! THE CLASS'S SEARCH: GOING DOWN -/
theorem zI_shl8 (a : Int) : zI a <<< (8 &&& 31 : Int32) = zI (a * 256) := by
  rw [← zI_mul, show (8 &&& 31 : Int32) = 8 from by decide, show zI 256 = 256 from by decide]
  apply Int32.toBitVec_inj.1
  rw [Int32.toBitVec_shiftLeft, Int32.toBitVec_mul, show ((8 : Int32).toBitVec.smod 32) = 8#32 from by decide, BitVec.shiftLeft_eq', BitVec.shiftLeft_eq_mul_twoPow]
  rfl
theorem zl256 : (256 : Int32) = zI 256 := by decide
def rpd (r : Nat → Int) (s : Nat) (x : Int) : Nat → Int := fun t => if t = s then x else r t
theorem rpd_s (r : Nat → Int) (s : Nat) (x : Int) : rpd r s x s = x := if_pos rfl
theorem rpd_o (r : Nat → Int) {s t : Nat} (x : Int) (h : t ≠ s) : rpd r s x t = r t := if_neg h
def SrG (σ τ : Sto) (s : Nat) : Prop := SrF σ τ ∧ τ.1 74 = σ.1 74 ∧ τ.1 63 13 = σ.1 63 13 ∧ ∀ t, t < s → τ.1 72 t = σ.1 72 t
theorem SrG_rfl (σ : Sto) (s : Nat) : SrG σ σ s := ⟨SrF_rfl σ, rfl, rfl, fun _ _ => rfl⟩
theorem SrG_tr {σ τ υ : Sto} {s : Nat} (h : SrG σ τ s) (k : SrG τ υ s) : SrG σ υ s := ⟨SrF_tr h.1 k.1, k.2.1.trans h.2.1, k.2.2.1.trans h.2.2.1, fun t ht => (k.2.2.2 t ht).trans (h.2.2.2 t ht)⟩
theorem SrG_lt {σ τ : Sto} {s u : Nat} (h : SrG σ τ s) (k : u ≤ s) : SrG σ τ u := ⟨h.1, h.2.1, h.2.2.1, fun t ht => h.2.2.2 t (by omega)⟩
theorem SrE_G {σ τ : Sto} (s : Nat) (h : SrE σ τ) : SrG σ τ s := ⟨SrE_F h, h.1 74 (by decide), by rw [h.1 63 (by decide)], fun t _ => by rw [h.1 72 (by decide)]⟩
/-- the toll, and what it says of the rest -/
def SrT (σ : Sto) (n : Nat) (T : Int) (re : Nat → Int) : Prop := σ.1 63 13 = zI T ∧ ∀ t, t ≤ n → σ.1 74 t = zI (re t)
def SrQ (n : Nat) (ld : Nat → Nat → Int) (lo : Nat → Int) (w : Nat → Nat → Int) (st : Nat → Nat) (rs : Nat → Nat → Int) (T : Int) (re : Nat → Int) : Prop := (0 ≤ T ∧ T ≤ 1024) ∧ re n = 0 ∧ (∀ t, t ≤ n → -24000000 ≤ re t ∧ re t ≤ 24000000) ∧ ∀ t, t < n → ∀ i, i < st t → 256 * w t (lo t + rs t i).toNat - T * (ld 0 t * rs t i) ≤ re t - re (t + 1)
theorem SrT_g {σ τ : Sto} {n s : Nat} {T : Int} {re : Nat → Int} (f : SrG σ τ s) (h : SrT σ n T re) : SrT τ n T re := by
  unfold SrT at *
  rw [f.2.1, f.2.2.1]
  exact h
/-- what is pruned is no better -/
theorem s_prune {n L : Nat} {ld : Nat → Nat → Int} {lo hi R0 : Nat → Int} {w : Nat → Nat → Int} {st : Nat → Nat} {rs : Nat → Nat → Int} {T : Int} {re : Nat → Int} (b : SrB n L ld lo hi w) (Q : SrQ n ld lo w st rs T re) {s : Nat} (hs : s ≤ n) {q : Nat → Int} (h : StRF n L ld R0 lo st rs q) {G : Int} (k : (sz s (fun t => w t (q t).toNat) - G) * 256 + re s + T * (R0 0 - sz s (fun t => ld 0 t * (q t - lo t))) < 256) : vl n w q ≤ G := by
  obtain ⟨q1, q2, q3, q4⟩ := Q
  have key : ∀ m, s ≤ m → m ≤ n → 256 * sz m (fun t => w t (q t).toNat) - T * sz m (fun t => ld 0 t * (q t - lo t)) + re m ≤ 256 * sz s (fun t => w t (q t).toNat) - T * sz s (fun t => ld 0 t * (q t - lo t)) + re s := by
    intro m
    induction m with
    | zero => intro h1 _; rw [show s = 0 by omega]; exact Int.le_refl _
    | succ m ih =>
      intro h1 h2
      by_cases e : s = m + 1
      · rw [e]; exact Int.le_refl _
      · have a := ih (by omega) (by omega)
        obtain ⟨i, i1, i2⟩ := h.1 m (by omega)
        have c := q4 m (by omega) i i1
        rw [sz, sz, Int.mul_add, Int.mul_add]
        have e2 : q m - lo m = rs m i := by omega
        rw [← i2] at c
        rw [e2]
        omega
  have a := key n hs (Nat.le_refl n)
  have c := Int.mul_le_mul_of_nonneg_left (h.2 0 (by have := b.2.1; omega)) q1.1
  rw [q2] at a
  rw [Int.mul_sub] at k
  unfold vl
  omega
theorem s_fits {n L : Nat} {ld : Nat → Nat → Int} {lo hi R0 : Nat → Int} {w : Nat → Nat → Int} {st : Nat → Nat} {rs : Nat → Nat → Int} {un : Nat → Nat → Nat} (b : SrB n L ld lo hi w) (P : StpR n lo hi w st rs un) {q : Nat → Int} (h : StRF n L ld R0 lo st rs q) {s : Nat} (hs : s < n) {c : Nat} (hc : c < L) : sz s (fun t => ld c t * (q t - lo t)) + ld c s * (q s - lo s) ≤ R0 c := by
  have a := h.2 c hc
  have e := sz_mono (f := fun t => ld c t * (q t - lo t)) (m := s + 1) (n := n) (by omega) (fun t ht => by
    obtain ⟨i, i1, i2⟩ := h.1 t ht
    have := (P t ht).2.1 i i1
    exact Int.mul_nonneg (b.2.2.1 c hc t ht).1 (by omega))
  rw [sz] at e
  omega
theorem sz_rpd {f : Nat → Int → Int} {r : Nat → Int} {s : Nat} {x : Int} : sz s (fun t => f t (rpd r s x t)) = sz s (fun t => f t (r t)) := sz_cg (fun t ht => by rw [rpd_o r x (by omega)])
def CCr (n L : Nat) (ld : Nat → Nat → Int) (R0 lo : Nat → Int) (st : Nat → Nat) (rs : Nat → Nat → Int) (s : Nat) (r : Nat → Int) (q : Nat → Int) : Prop := (∀ t, t < s → q t = r t) ∧ StRF n L ld R0 lo st rs q
theorem w_bd {n L : Nat} {ld : Nat → Nat → Int} {lo hi : Nat → Int} {w : Nat → Nat → Int} {st : Nat → Nat} {rs : Nat → Nat → Int} {un : Nat → Nat → Nat} (b : SrB n L ld lo hi w) (P : StpR n lo hi w st rs un) {s i : Nat} (hs : s < n) (h : i < st s) : -4000 ≤ w s (lo s + rs s i).toNat ∧ w s (lo s + rs s i).toNat ≤ 8000 := by
  have a := (P s hs).2.1 i h
  have c := b.2.2.2.1 s hs
  exact b.2.2.2.2 s hs _ (by omega)
theorem g_bd {n L : Nat} {ld : Nat → Nat → Int} {lo hi : Nat → Int} {w : Nat → Nat → Int} {st : Nat → Nat} {rs : Nat → Nat → Int} {un : Nat → Nat → Nat} (b : SrB n L ld lo hi w) (P : StpR n lo hi w st rs un) {r : Nat → Int} {s : Nat} (hs : s ≤ n) (h : ∀ t, t < s → ∃ i, i < st t ∧ r t = lo t + rs t i) : -16000 ≤ sz s (fun t => w t (r t).toNat) ∧ sz s (fun t => w t (r t).toNat) ≤ 32000 := by
  have a := sz_bd (n := s) (f := fun t => w t (r t).toNat) (a := -4000) (b := 8000) (fun t ht => by
    obtain ⟨i, i1, i2⟩ := h t ht
    show -4000 ≤ w t (r t).toNat ∧ w t (r t).toNat ≤ 8000
    rw [i2]
    exact w_bd b P (by omega) i1)
  have := b.1
  omega
/-- the last service -/
theorem s_end {n L : Nat} {ld : Nat → Nat → Int} {lo hi R0 : Nat → Int} {w : Nat → Nat → Int} {st : Nat → Nat} {rs : Nat → Nat → Int} {un : Nat → Nat → Nat} (b : SrB n L ld lo hi w) (P : StpR n lo hi w st rs un) {σ : Sto} {r : Nat → Int} {G : Int} {s top : Nat} (hn : n = s + 1) (S : SrS σ n lo hi w st rs un) (hG : σ.1 63 14 = zI G) (bG : -20000 ≤ G ∧ G ≤ 40000) (hr : ∀ t, t < s → ∃ i : Nat, i < st t ∧ σ.1 72 t = zI i ∧ r t = lo t + rs t i) (ht : top < st s)
    (hf : StRF n L ld R0 lo st rs (rpd r s (lo s + rs s top))) (hq : ∀ q, CCr n L ld R0 lo st rs s r q → ∃ i, i ≤ top ∧ q s = lo s + rs s i) :
    ∃ τ G', F_X8_end σ (zI s) (zI top) (zI (sz s (fun t => w t (r t).toNat))) = some τ ∧ SrG σ τ s ∧ τ.1 65 = σ.1 65 ∧ τ.1 63 14 = zI G' ∧ (-20000 ≤ G' ∧ G' ≤ 40000) ∧ BsR (EnRS n lo st rs) n w (CCr n L ld R0 lo st rs s r) G (σ.1 73) G' (τ.1 73) := by
  have h4 := b.1
  have p21 := (P s (by omega)).1
  have gb := g_bd b P (r := r) (s := s) (by omega) (fun t h => by obtain ⟨i, i1, _, i2⟩ := hr t h; exact ⟨i, i1, i2⟩)
  have wb := w_bd b P (s := s) (i := top) (by omega) ht
  have ev : ∀ q : Nat → Int, (∀ t, t < s → q t = r t) → vl n w q = sz s (fun t => w t (r t).toNat) + w s (q s).toNat := by
    intro q h
    unfold vl
    rw [hn, sz]
    congr 1
    exact sz_cg (fun t ht => by rw [h t ht])
  have er : vl n w (rpd r s (lo s + rs s top)) = sz s (fun t => w t (r t).toNat) + w s (lo s + rs s top).toNat := by
    rw [ev _ (fun t h => rpd_o r _ (by omega)), rpd_s]
  have cmp : ∀ q, CCr n L ld R0 lo st rs s r q → vl n w q ≤ vl n w (rpd r s (lo s + rs s top)) ∧ (vl n w q = vl n w (rpd r s (lo s + rs s top)) → ∀ t, t < n → q t = rpd r s (lo s + rs s top) t) := by
    intro q h
    obtain ⟨i, i1, i2⟩ := hq q h
    rw [er, ev q h.1, i2]
    by_cases e : i = top
    · rw [e]
      refine ⟨Int.le_refl _, fun _ t ht => ?_⟩
      by_cases e2 : t = s
      · rw [e2, rpd_s, i2, e]
      · rw [rpd_o _ _ e2]; exact h.1 t (by omega)
    · have := ((P s (by omega)).2.2.1 i top (by omega) ht).2
      exact ⟨by omega, fun h => absurd h (by omega)⟩
  unfold F_X8_end
  simp (disch := omega) only [zl21, zI_mul, zI_add, zI_ib, zI_ix]
  rw [if_pos (by omega), sw, show ((s : Int) * 21 + top).toNat = 21 * s + top by omega, ((S s (by omega)).2.1 top ht).2, zI_add, hG]
  simp (disch := omega) only [zI_le]
  by_cases c : sz s (fun t => w t (r t).toNat) + w s (lo s + rs s top).toNat ≤ G
  · rw [if_pos c]
    refine ⟨σ, G, rfl, SrG_rfl σ s, rfl, hG, bG, BsR_none (fun q h => ?_)⟩
    have := (cmp q h).1
    omega
  · rw [if_neg c, sw]
    rw [if_pos (by omega), sw, sw, Int.toNat_natCast, show ix 0 = 0 from by decide, show ix 4 = 4 from by decide]
    refine ⟨_, sz s (fun t => w t (r t).toNat) + w s (lo s + rs s top).toNat, rfl, ⟨⟨fun a ha => ?_, ⟨?_, ?_⟩, rfl⟩, ?_, ?_, fun t ht => ?_⟩, ?_, ?_, ⟨by omega, by omega⟩, ?_⟩
    · funext j; simp (disch := omega) only [sI_rd, si_rd, if_neg]
    · simp (disch := omega) only [sI_rd, si_rd, if_neg]
    · simp (disch := omega) only [sI_rd, si_rd, if_neg]
    · funext j; simp (disch := omega) only [sI_rd, si_rd, if_neg]
    · simp (disch := omega) only [sI_rd, si_rd, if_neg]
    · simp (disch := omega) only [sI_rd, si_rd, if_neg]
    · funext j; simp (disch := omega) only [sI_rd, si_rd, if_neg]
    · simp (disch := omega) only [sI_rd, si_rd, if_neg, if_pos, and_self, if_true]
    · refine Or.inr ⟨rpd r s (lo s + rs s top), ⟨fun t ht => rpd_o r _ (by omega), hf⟩, fun t ht => ?_, er.symm, by omega, fun p hp => ⟨(cmp p hp).1, fun e => Or.inl ((cmp p hp).2 e)⟩⟩
      by_cases e2 : t = s
      · subst e2
        refine ⟨top, by assumption, ?_, rpd_s _ _ _⟩
        simp (disch := omega) only [sI_rd, si_rd, if_neg, if_pos, va_cpy, if_true, and_self, Nat.zero_add, Nat.sub_zero]
      · obtain ⟨i, i1, i2, i3⟩ := hr t (by omega)
        refine ⟨i, i1, ?_, by rw [rpd_o _ _ e2]; exact i3⟩
        simp (disch := omega) only [sI_rd, si_rd, if_neg, if_pos, va_cpy, if_true, Nat.zero_add, Nat.sub_zero]
        exact i2
