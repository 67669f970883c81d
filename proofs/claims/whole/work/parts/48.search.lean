/-! THE CLASS'S SEARCH: WHAT ITS CELLS HOLD -/
def SrD (σ : Sto) (n L : Nat) (ld : Nat → Nat → Int) (lo hi : Nat → Int) : Prop := σ.1 63 0 = zI n ∧ σ.1 63 1 = zI L ∧ (∀ c, c < L → ∀ s, s < n → σ.1 64 (4 * c + s) = zI (ld c s)) ∧ ∀ s, s < n → σ.1 66 s = zI (lo s) ∧ σ.1 67 s = zI (hi s)
def SrS (σ : Sto) (n : Nat) (lo hi : Nat → Int) (w : Nat → Nat → Int) (st : Nat → Nat) (rs : Nat → Nat → Int) (un : Nat → Nat → Nat) : Prop := ∀ s, s < n → σ.1 68 s = zI (st s) ∧ (∀ i, i < st s → σ.1 69 (21 * s + i) = zI (rs s i) ∧ σ.1 70 (21 * s + i) = zI (w s (lo s + rs s i).toNat)) ∧ ∀ f : Nat, (f : Int) ≤ hi s - lo s → σ.1 71 (21 * s + f) = zI (un s f)
def SrR (σ : Sto) (L : Nat) (R : Nat → Int) : Prop := ∀ c, c < L → σ.1 65 c = zI (R c)
def SrE (σ τ : Sto) : Prop := (∀ a, a ≠ 65 → τ.1 a = σ.1 a) ∧ τ.2 = σ.2
def SrF (σ τ : Sto) : Prop := (∀ a, ¬ (a = 63 ∨ a = 65 ∨ a = 72 ∨ a = 73 ∨ a = 74) → τ.1 a = σ.1 a) ∧ (τ.1 63 0 = σ.1 63 0 ∧ τ.1 63 1 = σ.1 63 1) ∧ τ.2 = σ.2
theorem SrE_rfl (σ : Sto) : SrE σ σ := ⟨fun _ _ => rfl, rfl⟩
theorem SrE_tr {σ τ υ : Sto} (h : SrE σ τ) (k : SrE τ υ) : SrE σ υ := ⟨fun a q => (k.1 a q).trans (h.1 a q), k.2.trans h.2⟩
theorem SrF_rfl (σ : Sto) : SrF σ σ := ⟨fun _ _ => rfl, ⟨rfl, rfl⟩, rfl⟩
theorem SrF_tr {σ τ υ : Sto} (h : SrF σ τ) (k : SrF τ υ) : SrF σ υ := ⟨fun a q => (k.1 a q).trans (h.1 a q), ⟨k.2.1.1.trans h.2.1.1, k.2.1.2.trans h.2.1.2⟩, k.2.2.trans h.2.2⟩
theorem SrE_F {σ τ : Sto} (h : SrE σ τ) : SrF σ τ := ⟨fun a q => h.1 a (by omega), ⟨by rw [h.1 63 (by decide)], by rw [h.1 63 (by decide)]⟩, h.2⟩
theorem SrF_si (σ : Sto) (a k : Nat) (x : Int32) (h : (a = 63 ∧ k ≠ 0 ∧ k ≠ 1) ∨ a = 65 ∨ a = 72 ∨ a = 73 ∨ a = 74) : SrF σ (si σ a k x) := by
  refine ⟨fun b q => ?_, ⟨?_, ?_⟩, rfl⟩
  · funext j; rw [si_rd, if_neg (by omega)]
  · rw [si_rd, if_neg (by omega)]
  · rw [si_rd, if_neg (by omega)]
theorem SrD_fx {σ τ : Sto} {n L : Nat} {ld : Nat → Nat → Int} {lo hi : Nat → Int} (f : SrF σ τ) (h : SrD σ n L ld lo hi) : SrD τ n L ld lo hi := by
  unfold SrD at *
  rw [f.2.1.1, f.2.1.2, f.1 64 (by decide), f.1 66 (by decide), f.1 67 (by decide)]
  exact h
theorem SrS_fx {σ τ : Sto} {n : Nat} {lo hi : Nat → Int} {w : Nat → Nat → Int} {st : Nat → Nat} {rs : Nat → Nat → Int} {un : Nat → Nat → Nat} (f : SrF σ τ) (h : SrS σ n lo hi w st rs un) : SrS τ n lo hi w st rs un := by
  unfold SrS at *
  rw [f.1 68 (by decide), f.1 69 (by decide), f.1 70 (by decide), f.1 71 (by decide)]
  exact h
theorem s_take {σ : Sto} {n L : Nat} {ld : Nat → Nat → Int} {lo hi : Nat → Int} {w : Nat → Nat → Int} {R : Nat → Int} (b : SrB n L ld lo hi w) (d : SrD σ n L ld lo hi) (rm : SrR σ L R) {s i : Nat} {x : Int} (sg : Int) (hs : s < n) (hi21 : i < 21) (hx : σ.1 69 (21 * s + i) = zI x) : ∃ τ, F_X8_take σ (zI s) (zI i) (zI sg) = some τ ∧ SrE σ τ ∧ SrR τ L (fun c => R c - ld c s * (sg * x)) := by
  obtain ⟨⟨b1, b2⟩, ⟨b3, b4⟩, -⟩ := b
  have key : ∀ (m c k : Nat) (τ : Sto), c + m = L → m < k → SrE σ τ → (∀ e, e < c → τ.1 65 e = zI (R e - ld e s * (sg * x))) → (∀ e, c ≤ e → e < L → τ.1 65 e = zI (R e)) → ∃ υ, F_X8_take_18 k τ (zI s) (zI (sg * x)) (zI c) = some υ ∧ SrE σ υ ∧ SrR υ L (fun c => R c - ld c s * (sg * x)) := by
    intro m
    induction m with
    | zero =>
      intro c k τ h1 h2 h3 h4 h5
      obtain ⟨k, rfl⟩ : ∃ j, k = j + 1 := ⟨k - 1, by omega⟩
      have e : c = L := h1
      subst e
      refine ⟨τ, ?_, h3, h4⟩
      rw [F_X8_take_18, h3.1 63 (by decide), d.2.1, if_pos (Int32.le_refl _)]
    | succ m ih =>
      intro c k τ h1 h2 h3 h4 h5
      obtain ⟨k, rfl⟩ : ∃ j, k = j + 1 := ⟨k - 1, by omega⟩
      rw [F_X8_take_18, h3.1 63 (by decide), d.2.1, h3.1 64 (by decide)]
      simp (disch := omega) only [zl4, zl1, zI_le, zI_mul, zI_add, zI_ib, zI_ix, Int.toNat_natCast]
      rw [if_neg (by omega), if_pos (by omega), if_pos (by omega), sw, show ((c : Int) * 4 + s).toNat = 4 * c + s by omega, d.2.2.1 c (by omega) s hs, h5 c (Nat.le_refl _) (by omega), zI_mul, zI_sub]
      refine ih (c + 1) k (si τ 65 c (zI (R c - ld c s * (sg * x)))) (by omega) (by omega) ⟨fun a ha => ?_, h3.2⟩ (fun e he => ?_) (fun e he1 he2 => ?_)
      · rw [← h3.1 a ha]; funext j; rw [si_rd, if_neg (by omega)]
      · rw [si_rd]
        by_cases q : e = c
        · rw [if_pos ⟨rfl, q⟩, q]
        · rw [if_neg (by omega)]; exact h4 e (by omega)
      · rw [si_rd, if_neg (by omega)]; exact h5 e (by omega) he2
  unfold F_X8_take
  simp (disch := omega) only [zl21, zI_mul, zI_add, zI_ib, zI_ix]
  rw [if_pos (by omega), sw, show ((s : Int) * 21 + i).toNat = 21 * s + i by omega, hx, zI_mul]
  exact key L 0 FU σ (by omega) (FU_lt (by omega)) (SrE_rfl σ) (fun e he => absurd he (Nat.not_lt_zero e)) (fun e _ he => rm e he)
theorem s_high {σ : Sto} {n L : Nat} {ld : Nat → Nat → Int} {lo hi : Nat → Int} {w : Nat → Nat → Int} {st : Nat → Nat} {rs : Nat → Nat → Int} {un : Nat → Nat → Nat} {R : Nat → Int} (b : SrB n L ld lo hi w) (d : SrD σ n L ld lo hi) (S : SrS σ n lo hi w st rs un) (rm : SrR σ L R) (rb : ∀ c, c < L → 0 ≤ R c ∧ R c ≤ 16000) {s : Nat} (hs : s < n) : ∃ f : Nat, F_X8_highestStair σ (zI s) = some (zI (un s f)) ∧ (f : Int) ≤ hi s - lo s ∧ (∀ c, c < L → ld c s * f ≤ R c) ∧ ∀ g : Int, g ≤ hi s - lo s → (∀ c, c < L → ld c s * g ≤ R c) → g ≤ f := by
  obtain ⟨⟨b1, b2⟩, ⟨b3, b4⟩, b5, b6, b7⟩ := b
  have bh := b6 s hs
  have key : ∀ (m c k : Nat) (f : Nat), c + m = L → m < k → (f : Int) ≤ hi s - lo s → (∀ e, e < c → ld e s * f ≤ R e) → (∀ g : Int, g ≤ hi s - lo s → (∀ e, e < L → ld e s * g ≤ R e) → g ≤ f) → ∃ f' : Nat, F_X8_highestStair_16 k σ (zI s) (zI (f : Int)) (zI c) = some (zI (un s f')) ∧ (f' : Int) ≤ hi s - lo s ∧ (∀ c, c < L → ld c s * f' ≤ R c) ∧ ∀ g : Int, g ≤ hi s - lo s → (∀ c, c < L → ld c s * g ≤ R c) → g ≤ f' := by
    intro m
    induction m with
    | zero =>
      intro c k f h1 h2 h3 h4 h5
      obtain ⟨k, rfl⟩ : ∃ j, k = j + 1 := ⟨k - 1, by omega⟩
      have e : c = L := h1
      subst e
      refine ⟨f, ?_, h3, h4, h5⟩
      rw [F_X8_highestStair_16, d.2.1, if_pos (Int32.le_refl _)]
      have e2 : (if 0 < zI (f : Int) then zI (f : Int) else 0) = zI (f : Int) := by
        rw [zl0]
        simp (disch := omega) only [zI_lt]
        split
        · rfl
        · congr 1; omega
      rw [e2]
      simp (disch := omega) only [zl21, zI_mul, zI_add, zI_ib, zI_ix]
      rw [if_pos (by omega), show ((s : Int) * 21 + f).toNat = 21 * s + f by omega, (S s hs).2.2 f h3]
    | succ m ih =>
      intro c k f h1 h2 h3 h4 h5
      obtain ⟨k, rfl⟩ : ∃ j, k = j + 1 := ⟨k - 1, by omega⟩
      have bl := b5 c (by omega) s hs
      have br := rb c (by omega)
      rw [F_X8_highestStair_16, d.2.1]
      simp (disch := omega) only [zl4, zl1, zl0, zI_le, zI_mul, zI_add, zI_ib, zI_ix, Int.toNat_natCast]
      rw [if_neg (by omega), if_pos (by omega), show ((c : Int) * 4 + s).toNat = 4 * c + s by omega, d.2.2.1 c (by omega) s hs, rm c (by omega), zI_div (by omega) (by omega) (by omega) (by omega)]
      simp (disch := omega) only [zI_le, zI_eq]
      rw [Int.tdiv_eq_ediv_of_nonneg br.1]
      by_cases q : ld c s ≤ 0
      · rw [if_pos q]
        have e0 : ld c s = 0 := by omega
        refine ih (c + 1) k f (by omega) (by omega) h3 (fun e he => ?_) h5
        by_cases q2 : e = c
        · rw [q2, e0]; omega
        · exact h4 e (by omega)
      · rw [if_neg q, if_pos (by omega), if_pos (by omega), sw]
        have d0 : 0 ≤ R c / ld c s := Int.ediv_nonneg br.1 bl.1
        have d1 : R c / ld c s ≤ R c := Int.ediv_le_self _ br.1
        have d2 : R c / ld c s * ld c s ≤ R c := Int.ediv_mul_le _ (by omega)
        simp (disch := omega) only [zI_lt]
        by_cases q3 : R c / ld c s < f
        · rw [if_pos q3]
          have e1 : R c / ld c s = ((R c / ld c s).toNat : Int) := by omega
          rw [e1]
          refine ih (c + 1) k (R c / ld c s).toNat (by omega) (by omega) (by omega) (fun e he => ?_) (fun g g1 g2 => ?_)
          · rw [← e1]
            by_cases q2 : e = c
            · rw [q2, Int.mul_comm]; exact d2
            · have a1 := h4 e (by omega)
              have a2 := Int.mul_le_mul_of_nonneg_left (a := R c / ld c s) (b := f) (c := ld e s) (by omega) (b5 e (by omega) s hs).1
              omega
          · rw [← e1]
            have := g2 c (by omega)
            rw [Int.mul_comm] at this
            exact (Int.le_ediv_iff_mul_le (by omega)).2 this
        · rw [if_neg q3]
          refine ih (c + 1) k f (by omega) (by omega) h3 (fun e he => ?_) h5
          by_cases q2 : e = c
          · have a2 := Int.mul_le_mul_of_nonneg_left (a := f) (b := R c / ld c s) (c := ld c s) (by omega) bl.1
            rw [Int.mul_comm (ld c s) (R c / ld c s)] at a2
            rw [q2]
            omega
          · exact h4 e (by omega)
  unfold F_X8_highestStair
  simp (disch := omega) only [zI_ib, zI_ix, Int.toNat_natCast]
  rw [if_pos (by omega), (d.2.2.2 s hs).1, (d.2.2.2 s hs).2, sw, zI_sub, zl0]
  have e3 : hi s - lo s = ((hi s - lo s).toNat : Int) := by omega
  have := key L 0 FU (hi s - lo s).toNat (by omega) (FU_lt (by omega)) (by omega) (fun e he => absurd he (Nat.not_lt_zero e)) (fun g hg _ => by omega)
  rw [← e3] at this
  exact this
