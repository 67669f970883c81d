/-! THE CLASS'S SEARCH: A ROW TO BEGIN WITH -/
theorem sz_rup (f : Nat → Int → Int) (r : Nat → Int) (x : Int) {s : Nat} : ∀ {n : Nat}, s < n → sz n (fun t => f t (rpd r s x t)) = sz n (fun t => f t (r t)) - f s (r s) + f s x
  | 0, h => absurd h (Nat.not_lt_zero s)
  | n + 1, h => by
    rw [sz, sz]
    by_cases e : s = n
    · subst e
      rw [rpd_s, sz_rpd (f := f)]
      omega
    · rw [sz_rup f r x (show s < n by omega), rpd_o _ _ (show n ≠ s by omega)]
      omega
theorem s_greedy {σ : Sto} {n L : Nat} {ld : Nat → Nat → Int} {lo hi R0 : Nat → Int} {w : Nat → Nat → Int} {st : Nat → Nat} {rs : Nat → Nat → Int} {un : Nat → Nat → Nat} (b : SrB n L ld lo hi w) (P : StpR n lo hi w st rs un) (D : SrD σ n L ld lo hi) (S : SrS σ n lo hi w st rs un) (pk : ∀ s, s < n → ∃ i : Nat, i < st s ∧ σ.1 72 s = zI i) (rm : SrR σ L R0) (r0 : ∀ c, c < L → 0 ≤ R0 c ∧ R0 c ≤ 16000) :
    ∃ τ p, F_X8_startGreedily σ = some τ ∧ SrG σ τ 0 ∧ τ.1 73 = σ.1 73 ∧ SrR τ L R0 ∧ StRF n L ld R0 lo st rs p ∧ τ.1 63 14 = zI (vl n w p - 1) := by
  have h4 := b.1
  have nn : ∀ (p : Nat → Int) (m : Nat), m ≤ n → (∀ t, t < m → ∃ i : Nat, i < st t ∧ p t = lo t + rs t i) → ∀ c, c < L → ∀ t, t < m → 0 ≤ ld c t * (p t - lo t) := by
    intro p m hm h c hc t ht
    obtain ⟨i, i1, i2⟩ := h t ht
    have := (P t (by omega)).2.1 i i1
    exact Int.mul_nonneg (b.2.2.1 c hc t (by omega)).1 (by omega)
  have L3 : ∀ (p : Nat → Int) (g : Int) (m s k : Nat) (τ : Sto), s + m = n → m < k → SrG σ τ 0 → τ.1 73 = σ.1 73 → τ.1 63 14 = zI g → (∀ t, t < n → ∃ i : Nat, i < st t ∧ τ.1 72 t = zI i ∧ p t = lo t + rs t i) → SrR τ L (fun c => R0 c - (sz n (fun t => ld c t * (p t - lo t)) - sz s (fun t => ld c t * (p t - lo t)))) →
      ∃ υ, F_X8_startGreedily_131 k τ (zI s) = some υ ∧ SrG σ υ 0 ∧ υ.1 73 = σ.1 73 ∧ SrR υ L R0 ∧ υ.1 63 14 = zI g := by
    intro p g m
    induction m with
    | zero =>
      intro s k τ h1 h2 f e73 e14 hp hR
      obtain ⟨k, rfl⟩ : ∃ j, k = j + 1 := ⟨k - 1, by omega⟩
      refine ⟨τ, ?_, f, e73, fun c hc => ?_, e14⟩
      · rw [F_X8_startGreedily_131, (SrD_fx f.1 D).1, if_pos (zleT (by omega))]
      · rw [hR c hc, show s = n by omega]; dsimp only; congr 1; omega
    | succ m ih =>
      intro s k τ h1 h2 f e73 e14 hp hR
      obtain ⟨k, rfl⟩ : ∃ j, k = j + 1 := ⟨k - 1, by omega⟩
      obtain ⟨i, i1, i2, i3⟩ := hp s (by omega)
      have p21 := (P s (by omega)).1
      obtain ⟨x1, a1, a2, a3⟩ := s_take b (SrD_fx f.1 D) hR (s := s) (i := i) (x := rs s i) (-1) (by omega) (by omega) ((SrS_fx f.1 S s (by omega)).2.1 i i1).1
      rw [F_X8_startGreedily_131, (SrD_fx f.1 D).1, if_neg (zleF (by omega))]
      simp (disch := omega) only [zI_ib, zI_ix, Int.toNat_natCast]
      rw [if_pos (by omega), i2, zlm1, a1, Option.bind_some, zl1, zI_add, show (s : Int) + 1 = ((s + 1 : Nat) : Int) by omega]
      refine ih (s + 1) k x1 (by omega) (by omega) (SrG_tr f (SrE_G 0 a2)) ((a2.1 73 (by decide)).trans e73) (by rw [a2.1 63 (by decide)]; exact e14) (fun t ht => ?_) (fun c hc => ?_)
      · rw [a2.1 72 (by decide)]; exact hp t ht
      · rw [a3 c hc]; dsimp only; rw [sz, show p s - lo s = rs s i by omega, Int.neg_mul, Int.one_mul, Int.mul_neg]; congr 1; omega
  have L2 : ∀ (m s k : Nat) (τ : Sto) (p : Nat → Int), s + m = n → m < k → SrG σ τ 0 → τ.1 73 = σ.1 73 → τ.1 63 14 = zI (sz s (fun t => w t (p t).toNat) - 1) → (∀ t, t < n → ∃ i : Nat, i < st t ∧ τ.1 72 t = zI i ∧ p t = lo t + rs t i) → SrR τ L (fun c => R0 c - sz n (fun t => ld c t * (p t - lo t))) → (∀ c, c < L → sz n (fun t => ld c t * (p t - lo t)) ≤ R0 c) →
      ∃ υ p', F_X8_startGreedily_55 k τ (zI s) = some υ ∧ SrG σ υ 0 ∧ υ.1 73 = σ.1 73 ∧ SrR υ L R0 ∧ StRF n L ld R0 lo st rs p' ∧ υ.1 63 14 = zI (vl n w p' - 1) := by
    intro m
    induction m with
    | zero =>
      intro s k τ p h1 h2 f e73 e14 hp hR hz
      obtain ⟨k, rfl⟩ : ∃ j, k = j + 1 := ⟨k - 1, by omega⟩
      have e : s = n := h1
      subst e
      obtain ⟨υ, u1, u2, u3, u4, u5⟩ := L3 p (sz s (fun t => w t (p t).toNat) - 1) s 0 FU τ (by omega) (FU_lt (by omega)) f e73 e14 hp (fun c hc => by rw [hR c hc]; dsimp only; rw [sz]; congr 1; omega)
      refine ⟨υ, p, ?_, u2, u3, u4, ⟨fun t ht => by obtain ⟨i, i1, _, i2⟩ := hp t ht; exact ⟨i, i1, i2⟩, hz⟩, u5⟩
      rw [F_X8_startGreedily_55, (SrD_fx f.1 D).1, if_pos (zleT (by omega)), zl0]
      exact u1
    | succ m ih =>
      intro s k τ p h1 h2 f e73 e14 hp hR hz
      obtain ⟨k, rfl⟩ : ∃ j, k = j + 1 := ⟨k - 1, by omega⟩
      obtain ⟨i, i1, i2, i3⟩ := hp s (by omega)
      have hs : s < n := by omega
      have p21 := (P s hs).1
      have hp' : ∀ t, t < n → ∃ i : Nat, i < st t ∧ p t = lo t + rs t i := fun t ht => by obtain ⟨i, i1, _, i2⟩ := hp t ht; exact ⟨i, i1, i2⟩
      obtain ⟨x1, a1, a2, a3⟩ := s_take b (SrD_fx f.1 D) hR (s := s) (i := i) (x := rs s i) (-1) hs (by omega) ((SrS_fx f.1 S s hs).2.1 i i1).1
      have el : ∀ (c : Nat) (x : Int), sz n (fun t => ld c t * (rpd p s (lo s + x) t - lo t)) = sz n (fun t => ld c t * (p t - lo t)) - ld c s * rs s i + ld c s * x := by
        intro c x
        rw [sz_rup (fun t x => ld c t * (x - lo t)) p (lo s + x) hs, show p s - lo s = rs s i by omega, show lo s + x - lo s = x by omega]
      have bz : ∀ c, c < L → 0 ≤ sz n (fun t => ld c t * (p t - lo t)) - ld c s * rs s i := by
        intro c hc
        have := el c 0
        have h5 := sz_nn (n := n) (f := fun t => ld c t * (rpd p s (lo s + 0) t - lo t)) (fun t ht => by
          by_cases e : t = s
          · rw [e, rpd_s, show lo s + 0 - lo s = 0 by omega, Int.mul_zero]; exact Int.le_refl _
          · rw [rpd_o _ _ e]; exact nn p n (Nat.le_refl _) hp' c hc t ht)
        rw [Int.mul_zero] at this
        omega
      have nb : ∀ c, c < L → 0 ≤ ld c s * rs s i := fun c hc => Int.mul_nonneg (b.2.2.1 c hc s hs).1 ((P s hs).2.1 i i1).1
      have R1 : SrR x1 L (fun c => R0 c - (sz n (fun t => ld c t * (p t - lo t)) - ld c s * rs s i)) := fun c hc => by
        rw [a3 c hc]; dsimp only; rw [Int.neg_mul, Int.one_mul, Int.mul_neg]; congr 1; omega
      have g1 := SrG_tr f (SrE_G 0 a2)
      obtain ⟨ff, f1, f2, f3, f4⟩ := s_high b (SrD_fx g1.1 D) (SrS_fx g1.1 S) R1 (fun c hc => by have := bz c hc; have := r0 c hc; have := hz c hc; have := nb c hc; omega) hs
      obtain ⟨u1, u2, u3, u4⟩ := (P s hs).2.2.2 ff f2
      have g2 : SrG σ (si x1 72 s (zI (un s ff))) 0 := SrG_tr g1 ⟨SrF_si x1 72 s _ (by omega), by funext j; rw [si_rd, if_neg (by omega)], by rw [si_rd, if_neg (by omega)], fun t ht => by omega⟩
      have R2 : SrR (si x1 72 s (zI (un s ff))) L (fun c => R0 c - (sz n (fun t => ld c t * (p t - lo t)) - ld c s * rs s i)) := fun c hc => by rw [si_rd, if_neg (by omega)]; exact R1 c hc
      obtain ⟨x3, c1, c2, c3⟩ := s_take b (SrD_fx g2.1 D) R2 (s := s) (i := un s ff) (x := rs s (un s ff)) 1 hs (by omega) ((SrS_fx g2.1 S s hs).2.1 _ u1).1
      have g3 := SrG_tr g2 (SrE_G 0 c2)
      have v72 : x3.1 72 s = zI (un s ff) := by rw [c2.1 72 (by decide), si_rd, if_pos ⟨rfl, rfl⟩]
      have v14 : x3.1 63 14 = zI (sz s (fun t => w t (p t).toNat) - 1) := by rw [c2.1 63 (by decide), si_rd, if_neg (by omega), a2.1 63 (by decide)]; exact e14
      have v70 := ((SrS_fx g3.1 S s hs).2.1 _ u1).2
      rw [F_X8_startGreedily_55, (SrD_fx f.1 D).1, if_neg (zleF (by omega))]
      simp (disch := omega) only [zI_ib, zI_ix, Int.toNat_natCast]
      rw [if_pos (by omega), i2, zlm1, a1, Option.bind_some, f1, Option.bind_some, sw, si_rd, if_pos ⟨rfl, rfl⟩, zl1, c1, Option.bind_some, v72, zl21]
      simp (disch := omega) only [zI_mul, zI_add, zI_ib, zI_ix, Int.toNat_natCast]
      rw [if_pos (by omega), sw, show ((s : Int) * 21 + (un s ff : Nat)).toNat = 21 * s + un s ff by omega, v70, v14, zI_add, show (s : Int) + 1 = ((s + 1 : Nat) : Int) by omega]
      refine ih (s + 1) k _ (rpd p s (lo s + rs s (un s ff))) (by omega) (by omega) (SrG_tr g3 ⟨SrF_si _ 63 14 _ (by omega), by funext j; rw [si_rd, if_neg (by omega)], by rw [si_rd, if_neg (by omega)], fun t ht => by omega⟩) ?_ ?_ (fun t ht => ?_) (fun c hc => ?_) (fun c hc => ?_)
      · rw [← e73, ← a2.1 73 (by decide)]
        funext j
        rw [si_rd, if_neg (by omega), c2.1 73 (by decide), si_rd, if_neg (by omega)]
      · rw [si_rd, if_pos ⟨rfl, rfl⟩, sz, rpd_s, sz_rpd (f := fun t x => w t x.toNat)]
        congr 1; omega
      · rw [si_rd, if_neg (by omega)]
        by_cases e : t = s
        · subst e
          exact ⟨_, u1, v72, rpd_s _ _ _⟩
        · obtain ⟨j, j1, j2, j3⟩ := hp t ht
          refine ⟨j, j1, ?_, by rw [rpd_o _ _ e]; exact j3⟩
          rw [c2.1 72 (by decide), si_rd, if_neg (by omega), a2.1 72 (by decide)]; exact j2
      · rw [si_rd, if_neg (by omega), c3 c hc]
        dsimp only
        rw [el, Int.one_mul]; congr 1; omega
      · rw [el]
        have a := f3 c hc
        have m := Int.mul_le_mul_of_nonneg_left u2 (b.2.2.1 c hc s hs).1
        omega
  have L1 : ∀ (m s k : Nat) (τ : Sto) (p : Nat → Int), s + m = n → m < k → SrG σ τ 0 → τ.1 73 = σ.1 73 → (∀ t, t < s → ∃ i : Nat, i < st t ∧ τ.1 72 t = zI i ∧ p t = lo t + rs t i) → (∀ t, s ≤ t → t < n → ∃ i : Nat, i < st t ∧ τ.1 72 t = zI i) → SrR τ L (fun c => R0 c - sz s (fun t => ld c t * (p t - lo t))) → (∀ c, c < L → sz s (fun t => ld c t * (p t - lo t)) ≤ R0 c) →
      ∃ υ p', F_X8_startGreedily_2 k τ (zI s) = some υ ∧ SrG σ υ 0 ∧ υ.1 73 = σ.1 73 ∧ SrR υ L R0 ∧ StRF n L ld R0 lo st rs p' ∧ υ.1 63 14 = zI (vl n w p' - 1) := by
    intro m
    induction m with
    | zero =>
      intro s k τ p h1 h2 f e73 hp hp2 hR hz
      obtain ⟨k, rfl⟩ : ∃ j, k = j + 1 := ⟨k - 1, by omega⟩
      have e : s = n := h1
      subst e
      rw [F_X8_startGreedily_2, (SrD_fx f.1 D).1, if_pos (zleT (by omega)), sw, zl0]
      refine L2 s 0 FU _ p (by omega) (FU_lt (by omega)) (SrG_tr f ⟨SrF_si _ 63 14 _ (by omega), by funext j; rw [si_rd, if_neg (by omega)], by rw [si_rd, if_neg (by omega)], fun t ht => by omega⟩) ?_ ?_ (fun t ht => ?_) (fun c hc => ?_) hz
      · rw [← e73]; funext j; rw [si_rd, if_neg (by omega)]
      · rw [si_rd, if_pos ⟨rfl, rfl⟩]; rfl
      · rw [si_rd, if_neg (by omega)]; exact hp t ht
      · rw [si_rd, if_neg (by omega)]; exact hR c hc
    | succ m ih =>
      intro s k τ p h1 h2 f e73 hp hp2 hR hz
      obtain ⟨k, rfl⟩ : ∃ j, k = j + 1 := ⟨k - 1, by omega⟩
      have hs : s < n := by omega
      have p21 := (P s hs).1
      obtain ⟨i, i1, i2⟩ := hp2 s (Nat.le_refl _) hs
      have hp' : ∀ t, t < s → ∃ i : Nat, i < st t ∧ p t = lo t + rs t i := fun t ht => by obtain ⟨i, i1, _, i2⟩ := hp t ht; exact ⟨i, i1, i2⟩
      obtain ⟨ff, f1, f2, f3, f4⟩ := s_high b (SrD_fx f.1 D) (SrS_fx f.1 S) hR (fun c hc => by have := sz_nn (fun t ht => nn p s (by omega) hp' c hc t ht); have := r0 c hc; have := hz c hc; omega) hs
      obtain ⟨u1, u2, u3, u4⟩ := (P s hs).2.2.2 ff f2
      obtain ⟨j, j1, j2⟩ : ∃ j : Nat, j ≤ un s ff ∧ (if zI ((un s ff : Nat) : Int) < zI (i : Int) then zI ((un s ff : Nat) : Int) else zI (i : Int)) = zI (j : Int) := by
        by_cases q : un s ff < i
        · exact ⟨un s ff, Nat.le_refl _, if_pos (zltT (by omega))⟩
        · exact ⟨i, by omega, if_neg (zltF (by omega))⟩
      have rj : rs s j ≤ ff := by
        by_cases e : j = un s ff
        · rw [e]; exact u2
        · have := ((P s hs).2.2.1 j (un s ff) (by omega) u1).1
          omega
      have g2 : SrG σ (si τ 72 s (zI j)) 0 := SrG_tr f ⟨SrF_si τ 72 s _ (by omega), by funext j; rw [si_rd, if_neg (by omega)], by rw [si_rd, if_neg (by omega)], fun t ht => by omega⟩
      have R2 : SrR (si τ 72 s (zI j)) L (fun c => R0 c - sz s (fun t => ld c t * (p t - lo t))) := fun c hc => by rw [si_rd, if_neg (by omega)]; exact hR c hc
      obtain ⟨x3, c1, c2, c3⟩ := s_take b (SrD_fx g2.1 D) R2 (s := s) (i := j) (x := rs s j) 1 hs (by omega) ((SrS_fx g2.1 S s hs).2.1 _ (by omega)).1
      have el : ∀ (c : Nat), sz (s + 1) (fun t => ld c t * (rpd p s (lo s + rs s j) t - lo t)) = sz s (fun t => ld c t * (p t - lo t)) + ld c s * rs s j := by
        intro c
        rw [sz, rpd_s, sz_rpd (f := fun t x => ld c t * (x - lo t)), show lo s + rs s j - lo s = rs s j by omega]
      rw [F_X8_startGreedily_2, (SrD_fx f.1 D).1, if_neg (zleF (by omega))]
      simp (disch := omega) only [zI_ib, zI_ix, Int.toNat_natCast]
      rw [if_pos (by omega), f1, Option.bind_some, i2, j2, sw, si_rd, if_pos ⟨rfl, rfl⟩, zl1, c1, Option.bind_some, zI_add, show (s : Int) + 1 = ((s + 1 : Nat) : Int) by omega]
      refine ih (s + 1) k x3 (rpd p s (lo s + rs s j)) (by omega) (by omega) (SrG_tr g2 (SrE_G 0 c2)) ?_ (fun t ht => ?_) (fun t t1 t2 => ?_) (fun c hc => ?_) (fun c hc => ?_)
      · rw [c2.1 73 (by decide), ← e73]; funext j; rw [si_rd, if_neg (by omega)]
      · rw [c2.1 72 (by decide)]
        by_cases e : t = s
        · subst e
          exact ⟨j, by omega, by rw [si_rd, if_pos ⟨rfl, rfl⟩], rpd_s _ _ _⟩
        · obtain ⟨j, j1, j2, j3⟩ := hp t (by omega)
          exact ⟨j, j1, by rw [si_rd, if_neg (by omega)]; exact j2, by rw [rpd_o _ _ e]; exact j3⟩
      · obtain ⟨j, j1, j2⟩ := hp2 t (by omega) t2
        exact ⟨j, j1, by rw [c2.1 72 (by decide), si_rd, if_neg (by omega)]; exact j2⟩
      · rw [c3 c hc]
        dsimp only
        rw [el, Int.one_mul]; congr 1; omega
      · rw [el]
        have a := f3 c hc
        have m := Int.mul_le_mul_of_nonneg_left rj (b.2.2.1 c hc s hs).1
        omega
  unfold F_X8_startGreedily
  rw [zl0]
  exact L1 n 0 FU σ (fun _ => 0) (by omega) (FU_lt (by omega)) (SrG_rfl σ 0) rfl (fun t ht => by omega) (fun t _ ht => pk t ht) (fun c hc => by rw [rm c hc]; dsimp only; rw [sz]; congr 1; omega) (fun c hc => by rw [sz]; exact (r0 c hc).1)
