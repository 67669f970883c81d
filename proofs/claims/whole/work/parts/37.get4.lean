/-! LEVELS, SHARES, GAINS, THE BOOK -/
theorem zI_mod {x y : Nat} (hx : x < 1048576) (hy : y < 1048576) : zI x - zI x / zI y * zI y = zI ((x % y : Nat) : Int) := by
  rw [zI_div (by omega) (by omega) (by omega) (by omega), zI_mul, zI_sub, ← Int.ofNat_tdiv, ← Int.natCast_mul, Nat.mul_comm]
  have := Nat.div_add_mod x y
  congr 1
  omega
theorem gcd_st (x y : Nat) : Nat.gcd x y = Nat.gcd y (x % y) := by rw [Nat.gcd_comm x y, Nat.gcd_rec y x, Nat.gcd_comm]
theorem mod_half {x y : Nat} (h : 0 < x % y) (hy : 0 < y) : 2 * (y % (x % y)) < y := by
  have h1 := Nat.mod_lt x hy
  have h2 := Nat.mod_lt y h
  have h3 := Nat.div_add_mod y (x % y)
  have h4 : 1 ≤ y / (x % y) := Nat.div_pos (by omega) h
  have h5 := Nat.mul_le_mul_left (x % y) h4
  omega
theorem c_gcd (σ : Sto) : ∀ (m x y k i : Nat), y < 2 ^ m → x < 1048576 → y < 1048576 → i + 2 * m + 2 ≤ 64 → 2 * m + 2 ≤ k → 1 ≤ Nat.gcd x y → F_X11_commonDivisor_7 k σ (zI y) (zI x) (zI i) = some (zI (Nat.gcd x y)) := by
  have base : ∀ (x k i : Nat), x < 1048576 → i ≤ 64 → 1 ≤ Nat.gcd x 0 → F_X11_commonDivisor_7 (k + 1) σ (zI (0 : Nat)) (zI x) (zI i) = some (zI (Nat.gcd x 0)) := by
    intro x k i hx hi hg
    rw [Nat.gcd_zero_right] at hg
    rw [F_X11_commonDivisor_7, F_X11_commonDivisor_34, Nat.gcd_zero_right, zl1]
    have : ¬ zI x < zI 1 := by rw [zI_lt (by omega) (by omega) (by omega) (by omega)]; omega
    rw [if_neg this]
    split
    · rfl
    · exact if_pos rfl
  have step : ∀ (x y k i : Nat), 0 < y → x < 1048576 → y < 1048576 → i < 64 → F_X11_commonDivisor_7 (k + 1) σ (zI y) (zI x) (zI i) = F_X11_commonDivisor_7 k σ (zI ((x % y : Nat) : Int)) (zI y) (zI ((i + 1 : Nat) : Int)) := by
    intro x y k i h0 hx hy hi
    have q : ¬ zI (y : Int) = 0 := by rw [zl0, zI_eq (by omega) (by omega) (by omega) (by omega)]; omega
    rw [F_X11_commonDivisor_7, if_neg (show ¬ 64 ≤ zI (i : Int) from by rw [show (64 : Int32) = zI 64 from by decide, zI_le (by omega) (by omega) (by omega) (by omega)]; omega), if_neg q, if_pos q, zI_mod hx hy, zl1, zI_add]
    rfl
  intro m
  induction m with
  | zero =>
    intro x y k i hm hx hy hi hk hg
    obtain rfl : y = 0 := by omega
    obtain ⟨k, rfl⟩ : ∃ j, k = j + 1 := ⟨k - 1, by omega⟩
    exact base x k i hx (by omega) hg
  | succ m ih =>
    intro x y k i hm hx hy hi hk hg
    by_cases h0 : y = 0
    · subst h0
      obtain ⟨k, rfl⟩ : ∃ j, k = j + 1 := ⟨k - 1, by omega⟩
      exact base x k i hx (by omega) hg
    · have hr := Nat.mod_lt x (show 0 < y by omega)
      obtain ⟨k, rfl⟩ : ∃ j, k = j + 2 := ⟨k - 2, by omega⟩
      rw [step x y (k + 1) i (by omega) hx hy (by omega)]
      rw [gcd_st x y] at hg ⊢
      by_cases h1 : x % y = 0
      · rw [h1] at hg ⊢
        exact base y k (i + 1) hy (by omega) hg
      · have hh := mod_half (x := x) (y := y) (by omega) (by omega)
        rw [step y (x % y) k (i + 1) (by omega) hy (by omega) (by omega)]
        rw [gcd_st y (x % y)] at hg ⊢
        rw [Nat.pow_succ] at hm
        exact ih (x % y) (y % (x % y)) k (i + 1 + 1) (by omega) (by omega) (by omega) (by omega) (by omega) hg
theorem m_gcd (σ : Sto) : ∀ (m x y k : Nat), y < 2 ^ m → x < 1048576 → y < 1048576 → 2 * m + 2 ≤ k → F_X12_common_4 k σ (zI x) (zI y) = some (zI (Nat.gcd x y)) := by
  have base : ∀ (x k : Nat), F_X12_common_4 (k + 1) σ (zI x) (zI (0 : Nat)) = some (zI (Nat.gcd x 0)) := by
    intro x k
    rw [F_X12_common_4, Nat.gcd_zero_right]
    exact if_pos rfl
  have step : ∀ (x y k : Nat), 0 < y → x < 1048576 → y < 1048576 → F_X12_common_4 (k + 1) σ (zI x) (zI y) = F_X12_common_4 k σ (zI y) (zI ((x % y : Nat) : Int)) := by
    intro x y k h0 hx hy
    have q : ¬ zI (y : Int) = 0 := by rw [zl0, zI_eq (by omega) (by omega) (by omega) (by omega)]; omega
    rw [F_X12_common_4, if_neg q, if_pos q, zI_mod hx hy]
  intro m
  induction m with
  | zero =>
    intro x y k hm hx hy hk
    obtain rfl : y = 0 := by omega
    obtain ⟨k, rfl⟩ : ∃ j, k = j + 1 := ⟨k - 1, by omega⟩
    exact base x k
  | succ m ih =>
    intro x y k hm hx hy hk
    by_cases h0 : y = 0
    · subst h0
      obtain ⟨k, rfl⟩ : ∃ j, k = j + 1 := ⟨k - 1, by omega⟩
      exact base x k
    · have hr := Nat.mod_lt x (show 0 < y by omega)
      obtain ⟨k, rfl⟩ : ∃ j, k = j + 2 := ⟨k - 2, by omega⟩
      rw [step x y (k + 1) (by omega) hx hy, gcd_st x y]
      by_cases h1 : x % y = 0
      · rw [h1]
        exact base y k
      · have hh := mod_half (x := x) (y := y) (by omega) (by omega)
        rw [step y (x % y) k (by omega) hy (by omega), gcd_st y (x % y)]
        rw [Nat.pow_succ] at hm
        exact ih (x % y) (y % (x % y)) k (by omega) (by omega) (by omega) (by omega)
def ltv (a b w : Int) : Int32 := zI (if w = 0 then a else b) / zI ((Nat.gcd a.toNat b.toNat : Nat) : Int)
theorem gcd_ok {a b : Int} (ha : 0 ≤ a ∧ a < 1048576) (hb : 0 < b ∧ b < 1048576) : 1 ≤ Nat.gcd a.toNat b.toNat ∧ Nat.gcd a.toNat b.toNat < 1048576 := by
  have h1 : 0 < Nat.gcd a.toNat b.toNat := Nat.gcd_pos_of_pos_right _ (by omega)
  have h2 := Nat.gcd_le_right a.toNat (show 0 < b.toNat by omega)
  omega
theorem c_lt {σ : Sto} {a b w : Int} (ha : 0 ≤ a ∧ a < 1048576) (hb : 0 ≤ b ∧ b < 1048576) (hw : w = 0 ∨ w = 1) : F_X11_lowestTerms σ (zI a) (zI b) (zI w) = if b = 0 then some (zI (-1), si σ 0 18 (zI 5)) else some (ltv a b w, si σ 0 18 (zI 0)) := by
  unfold F_X11_lowestTerms
  by_cases q : b = 0
  · subst q
    rw [if_pos (show zI 0 = 0 by decide), if_pos rfl]
    rfl
  · have g := gcd_ok ha (show 0 < b ∧ b < 1048576 by omega)
    have e := c_gcd σ 20 b.toNat a.toNat FU 0 (by omega) (by omega) (by omega) (by omega) (by decide) (by rw [Nat.gcd_comm]; exact g.1)
    rw [Nat.gcd_comm, show ((a.toNat : Nat) : Int) = a by omega, show ((b.toNat : Nat) : Int) = b by omega] at e
    have q2 : ¬ zI b = 0 := by rw [zl0, zI_eq (by omega) (by omega) (by omega) (by omega)]; exact q
    have q3 : ¬ zI ((Nat.gcd a.toNat b.toNat : Nat) : Int) = 0 := by rw [zl0, zI_eq (by omega) (by omega) (by omega) (by omega)]; omega
    rw [if_neg q2, if_neg q, show F_X11_commonDivisor σ (zI a) (zI b) = _ from e, Option.bind_some, F_X11_lowestTerms_27, F_X11_lowestTerms_27, if_pos q3, if_pos q3]
    unfold ltv
    rcases hw with rfl | rfl
    · rw [if_pos (show zI 0 = 0 by decide), if_pos rfl]; rfl
    · rw [if_neg (by decide), if_neg (by decide)]; rfl
theorem m_part {σ : Sto} {a b w : Int} (ha : 0 ≤ a ∧ a < 1048576) (hb : 0 < b ∧ b < 1048576) (hw : w = 0 ∨ w = 1) : F_X12_part σ (zI a) (zI b) (zI w) = some (ltv a b w, si (si σ 0 1 (zI 0)) 0 2 (-1)) := by
  unfold F_X12_part
  have g := gcd_ok ha hb
  have e := m_gcd σ 20 a.toNat b.toNat FU (by omega) (by omega) (by omega) (by decide)
  rw [show ((a.toNat : Nat) : Int) = a by omega, show ((b.toNat : Nat) : Int) = b by omega] at e
  have q3 : ¬ zI ((Nat.gcd a.toNat b.toNat : Nat) : Int) = 0 := by rw [zl0, zI_eq (by omega) (by omega) (by omega) (by omega)]; omega
  rw [F_X12_part_10, F_X12_part_10, show F_X12_common σ (zI a) (zI b) = _ from e, Option.bind_some, if_pos q3, Option.bind_some, if_pos q3]
  unfold ltv
  rcases hw with rfl | rfl
  · rw [if_pos (show zI 0 = 0 by decide), if_pos rfl]; rfl
  · rw [if_neg (by decide), if_neg (by decide)]; rfl
theorem sp_share : Sp_share Inv := by
  intro σC σM i j h
  have h := Inv_0 h
  obtain ⟨z, hz1, hz2, rfl⟩ := zI_of i
  obtain ⟨w, hw1, hw2, rfl⟩ := zI_of j
  unfold F_X11_share F_X12_share F_X11_share_17 F_X12_share_22
  rw [sw]
  generalize si σM 0 0 0 = s1 at h ⊢
  rcases h.2.2.2 with ⟨u1, u2⟩ | ⟨n, nb, t, hd, ac, μ, un, ⟨⟨l1, l2, l3, l4⟩, ⟨g, g8, g9⟩, hm, ⟨hy, hyn⟩, ht, hb, hn, hk, hp, hi⟩, ca⟩
  · refine q_fin h (w := zI 1) (by decide) (v := zI (-1)) ?_ ?_
    · rw [c_noS0 u1, Option.bind_some, if_neg (show ¬ zI 1 = 0 by decide)]
      simp (disch := omega) only [↓reduceIte, and_self, true_and, and_true, false_and, and_false, Int.reduceEq, Int.reduceLT, Int.reduceLE, sw, Option.bind_some, zl0, zl1, zl2, zl3, zl4, zl5, zl6, zl7, zl8, zl9, zl10, zl20, zl21, zl28, zl33, zl34, zI_neg, zI_add, zI_sub, zI_mul, zI_lt, zI_le, zI_eq, zI_ib, zI_ix, if_pos, if_neg, F_X11_answer, F_X11_refuse, F_X12_tells, F_X12_refused, if_true, if_false]
    · rw [m_isS0 u2, Option.bind_some, if_pos (show zI 0 = 0 by decide)]
      simp (disch := omega) only [↓reduceIte, and_self, true_and, and_true, false_and, and_false, Int.reduceEq, Int.reduceLT, Int.reduceLE, sw, Option.bind_some, zl0, zl1, zl2, zl3, zl4, zl5, zl6, zl7, zl8, zl9, zl10, zl20, zl21, zl28, zl33, zl34, zI_neg, zI_add, zI_sub, zI_mul, zI_lt, zI_le, zI_eq, zI_ib, zI_ix, if_pos, if_neg, F_X11_answer, F_X11_refuse, F_X12_tells, F_X12_refused, if_true, if_false]
  · have T := tC_t l4
    have h4 := g.1.2.1
    rcases (show ¬ (0 ≤ z ∧ z < n) ∨ ∃ s : Nat, z = s ∧ s < n from if q : 0 ≤ z ∧ z < n then Or.inr ⟨z.toNat, by omega, by omega⟩ else Or.inl q) with q | ⟨s, rfl, hs⟩
    · refine q_fin h (w := zI 1) (by decide) (v := zI (-1)) ?_ ?_
      · rw [show F_X11_noService σC (zI z) = some (zI 1) from (c_noS l1 l3 T.1 ht.1.1 h4 ⟨hz1, hz2⟩).trans (congrArg some (if_neg q)), Option.bind_some, if_neg (show ¬ zI 1 = 0 by decide)]
        simp (disch := omega) only [↓reduceIte, and_self, true_and, and_true, false_and, and_false, Int.reduceEq, Int.reduceLT, Int.reduceLE, sw, Option.bind_some, zl0, zl1, zl2, zl3, zl4, zl5, zl6, zl7, zl8, zl9, zl10, zl20, zl21, zl28, zl33, zl34, zI_neg, zI_add, zI_sub, zI_mul, zI_lt, zI_le, zI_eq, zI_ib, zI_ix, if_pos, if_neg, F_X11_answer, F_X11_refuse, F_X12_tells, F_X12_refused, if_true, if_false]
      · rw [show F_X12_isService s1 (zI z) = some (zI 0) from (m_isS hm l2 h4 ⟨hz1, hz2⟩).trans (congrArg some (if_neg q)), Option.bind_some, if_pos (show zI 0 = 0 by decide)]
        simp (disch := omega) only [↓reduceIte, and_self, true_and, and_true, false_and, and_false, Int.reduceEq, Int.reduceLT, Int.reduceLE, sw, Option.bind_some, zl0, zl1, zl2, zl3, zl4, zl5, zl6, zl7, zl8, zl9, zl10, zl20, zl21, zl28, zl33, zl34, zI_neg, zI_add, zI_sub, zI_mul, zI_lt, zI_le, zI_eq, zI_ib, zI_ix, if_pos, if_neg, F_X11_answer, F_X11_refuse, F_X12_tells, F_X12_refused, if_true, if_false]
    · rw [show F_X11_noService σC (zI s) = some (zI 0) from (c_noS l1 l3 T.1 ht.1.1 h4 ⟨hz1, hz2⟩).trans (congrArg some (if_pos (by omega))), Option.bind_some, if_pos (show zI 0 = 0 by decide), show F_X12_isService s1 (zI s) = some (zI 1) from (m_isS hm l2 h4 ⟨hz1, hz2⟩).trans (congrArg some (if_pos (by omega))), Option.bind_some, if_neg (show ¬ zI 1 = 0 by decide)]
      have b1 := sp_bd g
      have b2 := mul_bd (a := 20) (b := 200) (g.2.2.1 s hs).2.1.1 (g.2.2.1 s hs).2.1.2 (we_bd g hs).1 (we_bd g hs).2
      rcases (show w < 0 ∨ (w = 0 ∨ w = 1) ∨ 1 < w by omega) with q | q | q
      · refine q_fin h (w := zI 1) (by decide) (v := zI (-1)) ?_ ?_
        · simp (disch := omega) only [↓reduceIte, and_self, true_and, and_true, false_and, and_false, Int.reduceEq, Int.reduceLT, Int.reduceLE, sw, Option.bind_some, zl0, zl1, zl2, zl3, zl4, zl5, zl6, zl7, zl8, zl9, zl10, zl20, zl21, zl28, zl33, zl34, zI_neg, zI_add, zI_sub, zI_mul, zI_lt, zI_le, zI_eq, zI_ib, zI_ix, if_pos, if_neg, F_X11_answer, F_X11_refuse, F_X12_tells, F_X12_refused, if_true, if_false]
        · simp (disch := omega) only [m_in, ↓reduceIte, and_self, true_and, and_true, false_and, and_false, Int.reduceEq, Int.reduceLT, Int.reduceLE, sw, Option.bind_some, zl0, zl1, zl2, zl3, zl4, zl5, zl6, zl7, zl8, zl9, zl10, zl20, zl21, zl28, zl33, zl34, zI_neg, zI_add, zI_sub, zI_mul, zI_lt, zI_le, zI_eq, zI_ib, zI_ix, if_pos, if_neg, F_X11_answer, F_X11_refuse, F_X12_tells, F_X12_refused, if_true, if_false]
      · have c1 := c_lt (σ := σC) (a := μ (7 * s + 1) * we μ s) (b := sp μ n) (by omega) (by omega) q
        by_cases q0 : sp μ n = 0
        · refine q_fin h (w := zI 5) (by decide) (v := zI (-1)) ?_ ?_
          · simp (disch := omega) only [l3, (hy.1 s hs).2.1, Int.toNat_natCast, y_weight yC_3 T hy ht g hs, y_spent yC_3 T hy ht g, c1, ↓reduceIte, and_self, true_and, and_true, false_and, and_false, Int.reduceEq, Int.reduceLT, Int.reduceLE, sw, Option.bind_some, zl0, zl1, zl2, zl3, zl4, zl5, zl6, zl7, zl8, zl9, zl10, zl20, zl21, zl28, zl33, zl34, zI_neg, zI_add, zI_sub, zI_mul, zI_lt, zI_le, zI_eq, zI_ib, zI_ix, if_pos, if_neg, F_X11_answer, F_X11_refuse, F_X12_tells, F_X12_refused, if_true, if_false]
          · simp (disch := omega) only [m_in, m_spent hm g, mo1 hm (show s < 4 by omega), m_weight hm g hs, ↓reduceIte, and_self, true_and, and_true, false_and, and_false, Int.reduceEq, Int.reduceLT, Int.reduceLE, sw, Option.bind_some, zl0, zl1, zl2, zl3, zl4, zl5, zl6, zl7, zl8, zl9, zl10, zl20, zl21, zl28, zl33, zl34, zI_neg, zI_add, zI_sub, zI_mul, zI_lt, zI_le, zI_eq, zI_ib, zI_ix, if_pos, if_neg, F_X11_answer, F_X11_refuse, F_X12_tells, F_X12_refused, if_true, if_false]
        · have m1 := m_part (σ := s1) (a := μ (7 * s + 1) * we μ s) (b := sp μ n) (by omega) (by omega) q
          refine q_fin h (w := zI 0) (by decide) (v := ltv (μ (7 * s + 1) * we μ s) (sp μ n) w) ?_ ?_
          · simp (disch := omega) only [l3, (hy.1 s hs).2.1, Int.toNat_natCast, y_weight yC_3 T hy ht g hs, y_spent yC_3 T hy ht g, c1, ↓reduceIte, and_self, true_and, and_true, false_and, and_false, Int.reduceEq, Int.reduceLT, Int.reduceLE, sw, Option.bind_some, zl0, zl1, zl2, zl3, zl4, zl5, zl6, zl7, zl8, zl9, zl10, zl20, zl21, zl28, zl33, zl34, zI_neg, zI_add, zI_sub, zI_mul, zI_lt, zI_le, zI_eq, zI_ib, zI_ix, if_pos, if_neg, F_X11_answer, F_X11_refuse, F_X12_tells, F_X12_refused, if_true, if_false]
          · simp (disch := omega) only [m_in, m_spent hm g, mo1 hm (show s < 4 by omega), m_weight hm g hs, m1, ↓reduceIte, and_self, true_and, and_true, false_and, and_false, Int.reduceEq, Int.reduceLT, Int.reduceLE, sw, Option.bind_some, zl0, zl1, zl2, zl3, zl4, zl5, zl6, zl7, zl8, zl9, zl10, zl20, zl21, zl28, zl33, zl34, zI_neg, zI_add, zI_sub, zI_mul, zI_lt, zI_le, zI_eq, zI_ib, zI_ix, if_pos, if_neg, F_X11_answer, F_X11_refuse, F_X12_tells, F_X12_refused, if_true, if_false]
      · refine q_fin h (w := zI 1) (by decide) (v := zI (-1)) ?_ ?_
        · simp (disch := omega) only [↓reduceIte, and_self, true_and, and_true, false_and, and_false, Int.reduceEq, Int.reduceLT, Int.reduceLE, sw, Option.bind_some, zl0, zl1, zl2, zl3, zl4, zl5, zl6, zl7, zl8, zl9, zl10, zl20, zl21, zl28, zl33, zl34, zI_neg, zI_add, zI_sub, zI_mul, zI_lt, zI_le, zI_eq, zI_ib, zI_ix, if_pos, if_neg, F_X11_answer, F_X11_refuse, F_X12_tells, F_X12_refused, if_true, if_false]
        · simp (disch := omega) only [m_in, ↓reduceIte, and_self, true_and, and_true, false_and, and_false, Int.reduceEq, Int.reduceLT, Int.reduceLE, sw, Option.bind_some, zl0, zl1, zl2, zl3, zl4, zl5, zl6, zl7, zl8, zl9, zl10, zl20, zl21, zl28, zl33, zl34, zI_neg, zI_add, zI_sub, zI_mul, zI_lt, zI_le, zI_eq, zI_ib, zI_ix, if_pos, if_neg, F_X11_answer, F_X11_refuse, F_X12_tells, F_X12_refused, if_true, if_false]
def lvw (μ : Nat → Int) (k s : Nat) : Int := bo μ s (μ (7 * s + k))
def lvA (μ : Nat → Int) (k n : Nat) : Int := sz n (fun s => μ (7 * s + 1) * lvw μ k s)
def lvB (μ : Nat → Int) (k n : Nat) : Int := sz n (fun s => μ (7 * s) * lvw μ k s)
theorem lv_bd {μ : Nat → Int} {n c k : Nat} (g : Gd μ n c) (hk : k = 0 ∨ k = 1) : (0 ≤ lvA μ k n ∧ lvA μ k n < 1048576) ∧ (0 ≤ lvB μ k n ∧ lvB μ k n < 1048576) := by
  have h4 := g.1.2.1
  have e : ∀ s, s < n → 0 ≤ lvw μ k s ∧ lvw μ k s ≤ 200 := by
    intro s hs
    refine bo_bd g.2.1 hs ?_
    rcases hk with rfl | rfl
    · exact (g.2.2.1 s hs).1.1
    · exact (g.2.2.1 s hs).2.1.1
  have a := sz_bd (n := n) (f := fun s => μ (7 * s + 1) * lvw μ k s) (a := 0) (b := 4000) (fun s hs => mul_bd (g.2.2.1 s hs).2.1.1 (g.2.2.1 s hs).2.1.2 (e s hs).1 (e s hs).2)
  have b := sz_bd (n := n) (f := fun s => μ (7 * s) * lvw μ k s) (a := 0) (b := 4000) (fun s hs => mul_bd (g.2.2.1 s hs).1.1 (g.2.2.1 s hs).1.2 (e s hs).1 (e s hs).2)
  unfold lvA lvB
  omega
theorem m_level {σ : Sto} {μ : Nat → Int} {n c k : Nat} (h : MS σ μ n) (g : Gd μ n c) (hk : k = 0 ∨ k = 1) (w : Int32) : F_X12_level_44 FU σ (zI k) w 0 0 0 = F_X12_level_44 1 σ (zI k) w (zI (lvA μ k n)) (zI (lvB μ k n)) (zI n) := by
  have h4 := g.1.2.1
  have key : ∀ (d i m : Nat), i + d = n → d < m → F_X12_level_44 m σ (zI k) w (zI (lvA μ k i)) (zI (lvB μ k i)) (zI i) = F_X12_level_44 1 σ (zI k) w (zI (lvA μ k n)) (zI (lvB μ k n)) (zI n) := by
    intro d
    induction d with
    | zero =>
      intro i m hi hm
      obtain ⟨m, rfl⟩ : ∃ j, m = j + 1 := ⟨m - 1, by omega⟩
      obtain rfl : i = n := by omega
      rw [F_X12_level_44, F_X12_level_44, h.2]
      simp only [Int32.le_refl, if_true]
    | succ d ih =>
      intro i m hi hm
      obtain ⟨m, rfl⟩ : ∃ j, m = j + 1 := ⟨m - 1, by omega⟩
      have hin : i < n := by omega
      have e := ih (i + 1) m (by omega) (by omega)
      rw [F_X12_level_44, h.2, if_neg (show ¬ zI n ≤ zI i from by rw [zI_le (by omega) (by omega) (by omega) (by omega)]; omega), m_weight h g hin, Option.bind_some, m_of1 h (by omega), Option.bind_some, m_bought h g.2.1 h4 hin (g.2.2.1 i hin).2.1.1 (g.2.2.1 i hin).2.1.2, Option.bind_some, F_X12_level_79, F_X12_level_79, m_of1 h (by omega), m_of0 h (by omega), Option.bind_some, Option.bind_some, Option.bind_some, Option.bind_some, zl1]
      simp only [zI_mul, zI_add]
      rcases hk with rfl | rfl
      · rw [if_pos (by decide)]
        exact e
      · rw [if_neg (by decide)]
        exact e
  exact key n 0 FU (by omega) (FU_lt (by omega))
theorem c_lev {σ : Sto} {y t n c k : Nat} {μ : Nat → Int} (hy : yC y) (ht : tC t) (h : YR σ y μ n) (q : TR σ t μ n) (g : Gd μ n c) (hk : k = 0 ∨ k = 1) : F_X9_costing σ t (y + 2) (y + (k + 1)) = some (zI (lvA μ k n)) ∧ F_X9_costing σ t (y + 1) (y + (k + 1)) = some (zI (lvB μ k n)) := by
  have e : shC (y + (k + 1)) = (20, 4) := by
    rcases hk with rfl | rfl
    · exact hy.2.1
    · exact hy.2.2.1
  have e2 : ∀ s, s < n → σ.1 (y + (k + 1)) s = zI (μ (7 * s + k)) ∧ 0 ≤ μ (7 * s + k) ∧ μ (7 * s + k) ≤ 20 := by
    rcases hk with rfl | rfl
    · exact y_pr h g
    · exact y_fr h g
  have e3 : ∀ s, s < n → bo μ s ((μ (7 * s + k)).toNat : Int) = lvw μ k s := by
    intro s hs
    have := e2 s hs
    unfold lvw
    rw [show ((μ (7 * s + k)).toNat : Int) = μ (7 * s + k) by omega]
  constructor
  · rw [t_costing ht.1 hy.2.2.1 e q.1.1 g.1.2.1 (fun s hs => (h.1 s hs).2.1) e2 (t_bo q)]
    congr 2
    exact sz_cg (fun s hs => by rw [e3 s hs])
  · rw [t_costing ht.1 hy.2.1 e q.1.1 g.1.2.1 (fun s hs => (h.1 s hs).1) e2 (t_bo q)]
    congr 2
    exact sz_cg (fun s hs => by rw [e3 s hs])
theorem sp_level : Sp_level Inv := by
  intro σC σM i j h
  have h := Inv_0 h
  obtain ⟨z, hz1, hz2, rfl⟩ := zI_of i
  obtain ⟨w, hw1, hw2, rfl⟩ := zI_of j
  unfold F_X11_level F_X12_level F_X11_level_25 F_X12_level_30
  rw [sw]
  generalize si σM 0 0 0 = s1 at h ⊢
  rcases h.2.2.2 with ⟨u1, u2⟩ | ⟨n, nb, t, hd, ac, μ, un, ⟨⟨l1, l2, l3, l4⟩, ⟨g, g8, g9⟩, hm, ⟨hy, hyn⟩, ht, hb, hn, hk, hp, hi⟩, ca⟩
  · refine q_fin h (w := zI 1) (by decide) (v := zI (-1)) ?_ ?_
    · rw [if_pos u1]
      simp (disch := omega) only [↓reduceIte, and_self, true_and, and_true, false_and, and_false, Int.reduceEq, Int.reduceLT, Int.reduceLE, sw, Option.bind_some, zl0, zl1, zl2, zl3, zl4, zl5, zl6, zl7, zl8, zl9, zl10, zl20, zl21, zl28, zl33, zl34, zI_neg, zI_add, zI_sub, zI_mul, zI_lt, zI_le, zI_eq, zI_ib, zI_ix, if_pos, if_neg, F_X11_answer, F_X11_refuse, F_X12_tells, F_X12_refused, if_true, if_false]
    · rw [if_pos u2]
      simp (disch := omega) only [↓reduceIte, and_self, true_and, and_true, false_and, and_false, Int.reduceEq, Int.reduceLT, Int.reduceLE, sw, Option.bind_some, zl0, zl1, zl2, zl3, zl4, zl5, zl6, zl7, zl8, zl9, zl10, zl20, zl21, zl28, zl33, zl34, zI_neg, zI_add, zI_sub, zI_mul, zI_lt, zI_le, zI_eq, zI_ib, zI_ix, if_pos, if_neg, F_X11_answer, F_X11_refuse, F_X12_tells, F_X12_refused, if_true, if_false]
  · have T := tC_t l4
    have h4 := g.1.2.1
    rw [if_neg (show ¬ σC.1 0 13 = 0 by rw [l1]; decide), if_neg (show ¬ s1.1 0 25 = 0 by rw [l2]; decide)]
    rcases (show z < 0 ∨ (z = 0 ∨ z = 1) ∨ 1 < z by omega) with q | q | q
    · refine q_fin h (w := zI 1) (by decide) (v := zI (-1)) ?_ ?_
      · simp (disch := omega) only [↓reduceIte, and_self, true_and, and_true, false_and, and_false, Int.reduceEq, Int.reduceLT, Int.reduceLE, sw, Option.bind_some, zl0, zl1, zl2, zl3, zl4, zl5, zl6, zl7, zl8, zl9, zl10, zl20, zl21, zl28, zl33, zl34, zI_neg, zI_add, zI_sub, zI_mul, zI_lt, zI_le, zI_eq, zI_ib, zI_ix, if_pos, if_neg, F_X11_answer, F_X11_refuse, F_X12_tells, F_X12_refused, if_true, if_false]
      · simp (disch := omega) only [m_in, ↓reduceIte, and_self, true_and, and_true, false_and, and_false, Int.reduceEq, Int.reduceLT, Int.reduceLE, sw, Option.bind_some, zl0, zl1, zl2, zl3, zl4, zl5, zl6, zl7, zl8, zl9, zl10, zl20, zl21, zl28, zl33, zl34, zI_neg, zI_add, zI_sub, zI_mul, zI_lt, zI_le, zI_eq, zI_ib, zI_ix, if_pos, if_neg, F_X11_answer, F_X11_refuse, F_X12_tells, F_X12_refused, if_true, if_false]
    · rcases (show w < 0 ∨ (w = 0 ∨ w = 1) ∨ 1 < w by omega) with q2 | q2 | q2
      · refine q_fin h (w := zI 1) (by decide) (v := zI (-1)) ?_ ?_
        · simp (disch := omega) only [↓reduceIte, and_self, true_and, and_true, false_and, and_false, Int.reduceEq, Int.reduceLT, Int.reduceLE, sw, Option.bind_some, zl0, zl1, zl2, zl3, zl4, zl5, zl6, zl7, zl8, zl9, zl10, zl20, zl21, zl28, zl33, zl34, zI_neg, zI_add, zI_sub, zI_mul, zI_lt, zI_le, zI_eq, zI_ib, zI_ix, if_pos, if_neg, F_X11_answer, F_X11_refuse, F_X12_tells, F_X12_refused, if_true, if_false]
        · simp (disch := omega) only [m_in, ↓reduceIte, and_self, true_and, and_true, false_and, and_false, Int.reduceEq, Int.reduceLT, Int.reduceLE, sw, Option.bind_some, zl0, zl1, zl2, zl3, zl4, zl5, zl6, zl7, zl8, zl9, zl10, zl20, zl21, zl28, zl33, zl34, zI_neg, zI_add, zI_sub, zI_mul, zI_lt, zI_le, zI_eq, zI_ib, zI_ix, if_pos, if_neg, F_X11_answer, F_X11_refuse, F_X12_tells, F_X12_refused, if_true, if_false]
      · obtain ⟨k, rfl, hk⟩ : ∃ k : Nat, z = k ∧ (k = 0 ∨ k = 1) := ⟨z.toNat, by omega, by omega⟩
        have bd := lv_bd g hk
        have c0 := c_lev yC_3 T hy ht g hk
        have c1 := c_lt (σ := σC) bd.1 bd.2 q2
        have e1 : (if zI (k : Int) = 0 then F_X11_level_52 σC (zI w) (3 + 1) else F_X11_level_52 σC (zI w) (3 + 2)) = F_X11_level_52 σC (zI w) (3 + (k + 1)) := by
          rcases hk with rfl | rfl
          · rfl
          · rfl
        have e2 : F_X11_level_52 σC (zI w) (3 + (k + 1)) = (F_X11_lowestTerms σC (zI (lvA μ k n)) (zI (lvB μ k n)) (zI w)).bind fun x5 => some (x5.1, x5.2) := by
          rw [F_X11_level_52, l3, Option.bind_some, if_pos T.1, c0.1, Option.bind_some, Option.bind_some, if_pos T.1, c0.2, Option.bind_some]
        rw [m_level hm g hk, F_X12_level_44, hm.2, if_pos (Int32.le_refl _), e1, e2, c1]
        by_cases q0 : lvB μ k n = 0
        · refine q_fin h (w := zI 5) (by decide) (v := zI (-1)) ?_ ?_
          · simp (disch := omega) only [q0, ↓reduceIte, and_self, true_and, and_true, false_and, and_false, Int.reduceEq, Int.reduceLT, Int.reduceLE, sw, Option.bind_some, zl0, zl1, zl2, zl3, zl4, zl5, zl6, zl7, zl8, zl9, zl10, zl20, zl21, zl28, zl33, zl34, zI_neg, zI_add, zI_sub, zI_mul, zI_lt, zI_le, zI_eq, zI_ib, zI_ix, if_pos, if_neg, F_X11_answer, F_X11_refuse, F_X12_tells, F_X12_refused, if_true, if_false]
          · simp (disch := omega) only [m_in, ↓reduceIte, and_self, true_and, and_true, false_and, and_false, Int.reduceEq, Int.reduceLT, Int.reduceLE, sw, Option.bind_some, zl0, zl1, zl2, zl3, zl4, zl5, zl6, zl7, zl8, zl9, zl10, zl20, zl21, zl28, zl33, zl34, zI_neg, zI_add, zI_sub, zI_mul, zI_lt, zI_le, zI_eq, zI_ib, zI_ix, if_pos, if_neg, F_X11_answer, F_X11_refuse, F_X12_tells, F_X12_refused, if_true, if_false]
        · have m1 := m_part (σ := s1) bd.1 (b := lvB μ k n) (by omega) q2
          refine q_fin h (w := zI 0) (by decide) (v := ltv (lvA μ k n) (lvB μ k n) w) ?_ ?_
          · simp (disch := omega) only [q0, ↓reduceIte, and_self, true_and, and_true, false_and, and_false, Int.reduceEq, Int.reduceLT, Int.reduceLE, sw, Option.bind_some, zl0, zl1, zl2, zl3, zl4, zl5, zl6, zl7, zl8, zl9, zl10, zl20, zl21, zl28, zl33, zl34, zI_neg, zI_add, zI_sub, zI_mul, zI_lt, zI_le, zI_eq, zI_ib, zI_ix, if_pos, if_neg, F_X11_answer, F_X11_refuse, F_X12_tells, F_X12_refused, if_true, if_false]
          · simp (disch := omega) only [m_in, m1, ↓reduceIte, and_self, true_and, and_true, false_and, and_false, Int.reduceEq, Int.reduceLT, Int.reduceLE, sw, Option.bind_some, zl0, zl1, zl2, zl3, zl4, zl5, zl6, zl7, zl8, zl9, zl10, zl20, zl21, zl28, zl33, zl34, zI_neg, zI_add, zI_sub, zI_mul, zI_lt, zI_le, zI_eq, zI_ib, zI_ix, if_pos, if_neg, F_X11_answer, F_X11_refuse, F_X12_tells, F_X12_refused, if_true, if_false]
      · refine q_fin h (w := zI 1) (by decide) (v := zI (-1)) ?_ ?_
        · simp (disch := omega) only [↓reduceIte, and_self, true_and, and_true, false_and, and_false, Int.reduceEq, Int.reduceLT, Int.reduceLE, sw, Option.bind_some, zl0, zl1, zl2, zl3, zl4, zl5, zl6, zl7, zl8, zl9, zl10, zl20, zl21, zl28, zl33, zl34, zI_neg, zI_add, zI_sub, zI_mul, zI_lt, zI_le, zI_eq, zI_ib, zI_ix, if_pos, if_neg, F_X11_answer, F_X11_refuse, F_X12_tells, F_X12_refused, if_true, if_false]
        · simp (disch := omega) only [m_in, ↓reduceIte, and_self, true_and, and_true, false_and, and_false, Int.reduceEq, Int.reduceLT, Int.reduceLE, sw, Option.bind_some, zl0, zl1, zl2, zl3, zl4, zl5, zl6, zl7, zl8, zl9, zl10, zl20, zl21, zl28, zl33, zl34, zI_neg, zI_add, zI_sub, zI_mul, zI_lt, zI_le, zI_eq, zI_ib, zI_ix, if_pos, if_neg, F_X11_answer, F_X11_refuse, F_X12_tells, F_X12_refused, if_true, if_false]
    · refine q_fin h (w := zI 1) (by decide) (v := zI (-1)) ?_ ?_
      · simp (disch := omega) only [↓reduceIte, and_self, true_and, and_true, false_and, and_false, Int.reduceEq, Int.reduceLT, Int.reduceLE, sw, Option.bind_some, zl0, zl1, zl2, zl3, zl4, zl5, zl6, zl7, zl8, zl9, zl10, zl20, zl21, zl28, zl33, zl34, zI_neg, zI_add, zI_sub, zI_mul, zI_lt, zI_le, zI_eq, zI_ib, zI_ix, if_pos, if_neg, F_X11_answer, F_X11_refuse, F_X12_tells, F_X12_refused, if_true, if_false]
      · simp (disch := omega) only [m_in, ↓reduceIte, and_self, true_and, and_true, false_and, and_false, Int.reduceEq, Int.reduceLT, Int.reduceLE, sw, Option.bind_some, zl0, zl1, zl2, zl3, zl4, zl5, zl6, zl7, zl8, zl9, zl10, zl20, zl21, zl28, zl33, zl34, zI_neg, zI_add, zI_sub, zI_mul, zI_lt, zI_le, zI_eq, zI_ib, zI_ix, if_pos, if_neg, F_X11_answer, F_X11_refuse, F_X12_tells, F_X12_refused, if_true, if_false]
theorem sp_book : Sp_book Inv := by
  intro σC σM i j h
  have h := Inv_0 h
  obtain ⟨z, hz1, hz2, rfl⟩ := zI_of i
  obtain ⟨w, hw1, hw2, rfl⟩ := zI_of j
  unfold F_X11_book F_X12_book F_X11_book_31 F_X12_book_38
  rw [sw]
  generalize si σM 0 0 0 = s1 at h ⊢
  rcases h.2.2.2 with ⟨u1, u2⟩ | ⟨n, nb, t, hd, ac, μ, un, ⟨⟨l1, l2, l3, l4⟩, ⟨g, g8, g9⟩, hm, ⟨hy, hyn⟩, ht, hb, hn, hk, hp, hi⟩, ca⟩
  · refine q_fin h (w := zI 1) (by decide) (v := zI (-1)) ?_ ?_
    · rw [if_pos u1]
      simp (disch := omega) only [↓reduceIte, and_self, true_and, and_true, false_and, and_false, Int.reduceEq, Int.reduceLT, Int.reduceLE, sw, Option.bind_some, zl0, zl1, zl2, zl3, zl4, zl5, zl6, zl7, zl8, zl9, zl10, zl20, zl21, zl28, zl33, zl34, zI_neg, zI_add, zI_sub, zI_mul, zI_lt, zI_le, zI_eq, zI_ib, zI_ix, if_pos, if_neg, F_X11_answer, F_X11_refuse, F_X12_tells, F_X12_refused, if_true, if_false]
    · rw [if_pos u2]
      simp (disch := omega) only [↓reduceIte, and_self, true_and, and_true, false_and, and_false, Int.reduceEq, Int.reduceLT, Int.reduceLE, sw, Option.bind_some, zl0, zl1, zl2, zl3, zl4, zl5, zl6, zl7, zl8, zl9, zl10, zl20, zl21, zl28, zl33, zl34, zI_neg, zI_add, zI_sub, zI_mul, zI_lt, zI_le, zI_eq, zI_ib, zI_ix, if_pos, if_neg, F_X11_answer, F_X11_refuse, F_X12_tells, F_X12_refused, if_true, if_false]
  · have T := tC_t l4
    have h4 := g.1.2.1
    rw [if_neg (show ¬ σC.1 0 13 = 0 by rw [l1]; decide), if_neg (show ¬ s1.1 0 25 = 0 by rw [l2]; decide), hyn, show ix 32 = 32 from by decide, hm.1 32 (by omega)]
    rcases (show z < 0 ∨ (0 ≤ z ∧ z < μ 32) ∨ μ 32 ≤ z by omega) with q | q | q
    · refine q_fin h (w := zI 1) (by decide) (v := zI (-1)) ?_ ?_
      · simp (disch := omega) only [↓reduceIte, and_self, true_and, and_true, false_and, and_false, Int.reduceEq, Int.reduceLT, Int.reduceLE, sw, Option.bind_some, zl0, zl1, zl2, zl3, zl4, zl5, zl6, zl7, zl8, zl9, zl10, zl20, zl21, zl28, zl33, zl34, zI_neg, zI_add, zI_sub, zI_mul, zI_lt, zI_le, zI_eq, zI_ib, zI_ix, if_pos, if_neg, F_X11_answer, F_X11_refuse, F_X12_tells, F_X12_refused, if_true, if_false]
      · simp (disch := omega) only [m_in, ↓reduceIte, and_self, true_and, and_true, false_and, and_false, Int.reduceEq, Int.reduceLT, Int.reduceLE, sw, Option.bind_some, zl0, zl1, zl2, zl3, zl4, zl5, zl6, zl7, zl8, zl9, zl10, zl20, zl21, zl28, zl33, zl34, zI_neg, zI_add, zI_sub, zI_mul, zI_lt, zI_le, zI_eq, zI_ib, zI_ix, if_pos, if_neg, F_X11_answer, F_X11_refuse, F_X12_tells, F_X12_refused, if_true, if_false]
    · obtain ⟨y, rfl⟩ : ∃ y : Nat, z = y := ⟨z.toNat, by omega⟩
      obtain ⟨k1, k2⟩ := hk y (by omega)
      rcases (show w < 0 ∨ (0 ≤ w ∧ w < 4) ∨ w = 4 ∨ 4 < w by omega) with q2 | q2 | rfl | q2
      · refine q_fin h (w := zI 1) (by decide) (v := zI (-1)) ?_ ?_
        · simp (disch := omega) only [↓reduceIte, and_self, true_and, and_true, false_and, and_false, Int.reduceEq, Int.reduceLT, Int.reduceLE, sw, Option.bind_some, zl0, zl1, zl2, zl3, zl4, zl5, zl6, zl7, zl8, zl9, zl10, zl20, zl21, zl28, zl33, zl34, zI_neg, zI_add, zI_sub, zI_mul, zI_lt, zI_le, zI_eq, zI_ib, zI_ix, if_pos, if_neg, F_X11_answer, F_X11_refuse, F_X12_tells, F_X12_refused, if_true, if_false]
        · simp (disch := omega) only [m_in, ↓reduceIte, and_self, true_and, and_true, false_and, and_false, Int.reduceEq, Int.reduceLT, Int.reduceLE, sw, Option.bind_some, zl0, zl1, zl2, zl3, zl4, zl5, zl6, zl7, zl8, zl9, zl10, zl20, zl21, zl28, zl33, zl34, zI_neg, zI_add, zI_sub, zI_mul, zI_lt, zI_le, zI_eq, zI_ib, zI_ix, if_pos, if_neg, F_X11_answer, F_X11_refuse, F_X12_tells, F_X12_refused, if_true, if_false]
      · obtain ⟨j, rfl⟩ : ∃ j : Nat, w = j := ⟨w.toNat, by omega⟩
        have k3 := k1 j (by omega)
        refine q_fin h (w := zI 0) (by decide) (v := s1.1 2 (34 + 5 * y + j)) ?_ ?_
        · unfold F_X0_look
          simp (disch := omega) only [show (shC 8).1 = 0 from by decide, ↓reduceIte, and_self, true_and, and_true, false_and, and_false, Int.reduceEq, Int.reduceLT, Int.reduceLE, sw, Option.bind_some, zl0, zl1, zl2, zl3, zl4, zl5, zl6, zl7, zl8, zl9, zl10, zl20, zl21, zl28, zl33, zl34, zI_neg, zI_add, zI_sub, zI_mul, zI_lt, zI_le, zI_eq, zI_ib, zI_ix, if_pos, if_neg, F_X11_answer, F_X11_refuse, F_X12_tells, F_X12_refused, if_true, if_false]
          rw [show ((y : Int) * 4 + j).toNat = 4 * y + j by omega, k3]
        · simp (disch := omega) only [m_in, ↓reduceIte, and_self, true_and, and_true, false_and, and_false, Int.reduceEq, Int.reduceLT, Int.reduceLE, sw, Option.bind_some, zl0, zl1, zl2, zl3, zl4, zl5, zl6, zl7, zl8, zl9, zl10, zl20, zl21, zl28, zl33, zl34, zI_neg, zI_add, zI_sub, zI_mul, zI_lt, zI_le, zI_eq, zI_ib, zI_ix, if_pos, if_neg, F_X11_answer, F_X11_refuse, F_X12_tells, F_X12_refused, if_true, if_false]
          rw [show (34 + 5 * (y : Int) + j).toNat = 34 + 5 * y + j by omega]
      · have k4 : F_X0_look σC 8 (zI y) (zI 4) = some (s1.1 2 (34 + 5 * y + 4)) := by
          unfold F_X0_look
          simp (disch := omega) only [show (shC 8).1 = 0 from by decide, ↓reduceIte, and_self, true_and, and_true, false_and, and_false, Int.reduceEq, Int.reduceLT, Int.reduceLE, sw, Option.bind_some, zl0, zl1, zl2, zl3, zl4, zl5, zl6, zl7, zl9, zl10, zl20, zl21, zl28, zl33, zl34, zI_neg, zI_add, zI_sub, zI_mul, zI_lt, zI_le, zI_eq, zI_ib, zI_ix, if_pos, if_neg, F_X11_answer, F_X11_refuse, F_X12_tells, F_X12_refused, if_true, if_false]
          rw [show ((y : Int) * 4).toNat = 4 * y by omega, show ((y : Int) * 4 + 1).toNat = 4 * y + 1 by omega, k2]
          by_cases q3 : σC.1 9 (4 * y) ≤ σC.1 9 (4 * y + 1)
          · rw [if_neg (by rw [Int32.not_lt]; exact q3), if_pos q3]; rfl
          · rw [if_pos (by rw [Int32.not_le] at q3; exact q3), if_neg q3]; rfl
        refine q_fin h (w := zI 0) (by decide) (v := s1.1 2 (34 + 5 * y + 4)) ?_ ?_
        · simp (disch := omega) only [k4, ↓reduceIte, and_self, true_and, and_true, false_and, and_false, Int.reduceEq, Int.reduceLT, Int.reduceLE, sw, Option.bind_some, zl0, zl1, zl2, zl3, zl4, zl5, zl6, zl7, zl8, zl9, zl10, zl20, zl21, zl28, zl33, zl34, zI_neg, zI_add, zI_sub, zI_mul, zI_lt, zI_le, zI_eq, zI_ib, zI_ix, if_pos, if_neg, F_X11_answer, F_X11_refuse, F_X12_tells, F_X12_refused, if_true, if_false]
        · simp (disch := omega) only [m_in, ↓reduceIte, and_self, true_and, and_true, false_and, and_false, Int.reduceEq, Int.reduceLT, Int.reduceLE, sw, Option.bind_some, zl0, zl1, zl2, zl3, zl4, zl5, zl6, zl7, zl8, zl9, zl10, zl20, zl21, zl28, zl33, zl34, zI_neg, zI_add, zI_sub, zI_mul, zI_lt, zI_le, zI_eq, zI_ib, zI_ix, if_pos, if_neg, F_X11_answer, F_X11_refuse, F_X12_tells, F_X12_refused, if_true, if_false]
          rw [show (34 + 5 * (y : Int) + 4).toNat = 34 + 5 * y + 4 by omega]
      · refine q_fin h (w := zI 1) (by decide) (v := zI (-1)) ?_ ?_
        · simp (disch := omega) only [↓reduceIte, and_self, true_and, and_true, false_and, and_false, Int.reduceEq, Int.reduceLT, Int.reduceLE, sw, Option.bind_some, zl0, zl1, zl2, zl3, zl4, zl5, zl6, zl7, zl8, zl9, zl10, zl20, zl21, zl28, zl33, zl34, zI_neg, zI_add, zI_sub, zI_mul, zI_lt, zI_le, zI_eq, zI_ib, zI_ix, if_pos, if_neg, F_X11_answer, F_X11_refuse, F_X12_tells, F_X12_refused, if_true, if_false]
        · simp (disch := omega) only [m_in, ↓reduceIte, and_self, true_and, and_true, false_and, and_false, Int.reduceEq, Int.reduceLT, Int.reduceLE, sw, Option.bind_some, zl0, zl1, zl2, zl3, zl4, zl5, zl6, zl7, zl8, zl9, zl10, zl20, zl21, zl28, zl33, zl34, zI_neg, zI_add, zI_sub, zI_mul, zI_lt, zI_le, zI_eq, zI_ib, zI_ix, if_pos, if_neg, F_X11_answer, F_X11_refuse, F_X12_tells, F_X12_refused, if_true, if_false]
    · refine q_fin h (w := zI 1) (by decide) (v := zI (-1)) ?_ ?_
      · simp (disch := omega) only [↓reduceIte, and_self, true_and, and_true, false_and, and_false, Int.reduceEq, Int.reduceLT, Int.reduceLE, sw, Option.bind_some, zl0, zl1, zl2, zl3, zl4, zl5, zl6, zl7, zl8, zl9, zl10, zl20, zl21, zl28, zl33, zl34, zI_neg, zI_add, zI_sub, zI_mul, zI_lt, zI_le, zI_eq, zI_ib, zI_ix, if_pos, if_neg, F_X11_answer, F_X11_refuse, F_X12_tells, F_X12_refused, if_true, if_false]
      · simp (disch := omega) only [m_in, ↓reduceIte, and_self, true_and, and_true, false_and, and_false, Int.reduceEq, Int.reduceLT, Int.reduceLE, sw, Option.bind_some, zl0, zl1, zl2, zl3, zl4, zl5, zl6, zl7, zl8, zl9, zl10, zl20, zl21, zl28, zl33, zl34, zI_neg, zI_add, zI_sub, zI_mul, zI_lt, zI_le, zI_eq, zI_ib, zI_ix, if_pos, if_neg, F_X11_answer, F_X11_refuse, F_X12_tells, F_X12_refused, if_true, if_false]
theorem sz_upd {f f2 : Nat → Int} {s : Nat} {x : Int} (h1 : f2 s = f s - x) (h2 : ∀ i, i ≠ s → f2 i = f i) : ∀ {n : Nat}, s < n → sz n f2 = sz n f - x
  | 0, h => absurd h (by omega)
  | n + 1, h => by
    rw [sz, sz]
    by_cases e : s = n
    · subst e
      rw [h1, sz_cg (f := f2) (g := f) (n := s) (fun i hi => h2 i (by omega))]
      omega
    · rw [sz_upd h1 h2 (n := n) (by omega), h2 n (by omega)]
      omega
theorem gain_al {μ : Nat → Int} {n s : Nat} (hs : s < n) (h4 : n ≤ 4) : al (fun k => if k = 7 * s + 5 then μ (7 * s + 6) else μ k) n = alw μ n (du μ n - du1 μ s) := by
  have e1 : ba (fun k => if k = 7 * s + 5 then μ (7 * s + 6) else μ k) n = ba μ n := by
    refine sz_cg (fun i _ => ?_)
    unfold we bo
    simp (disch := omega) only [if_neg]
  have e2 : ra (fun k => if k = 7 * s + 5 then μ (7 * s + 6) else μ k) = ra μ := by
    unfold ra
    simp (disch := omega) only [if_neg]
  have e3 : du (fun k => if k = 7 * s + 5 then μ (7 * s + 6) else μ k) n = du μ n - du1 μ s := by
    refine sz_upd (s := s) ?_ (fun i hi => ?_) hs
    · unfold du1
      simp (disch := omega) only [if_neg, if_pos, if_true]
      rw [Int.sub_self, Int.sub_self]
      simp
    · unfold du1
      simp (disch := omega) only [if_neg]
  unfold al alw
  rw [e1, e2, e3]
  simp (disch := omega) only [if_neg]
theorem du1_le {μ : Nat → Int} {n c s : Nat} (g : Gd μ n c) (hs : s < n) : 0 ≤ du μ n - du1 μ s := by
  have e := sz_upd (f := fun i => du1 μ i) (f2 := fun i => if i = s then 0 else du1 μ i) (s := s) (x := du1 μ s) (by simp) (fun i hi => by simp [hi]) hs
  unfold du
  rw [← e]
  have := sz_bd (n := n) (f := fun i => if i = s then 0 else du1 μ i) (a := 0) (b := 9801) (fun i hi => by
    have := du1_bd g hi
    split <;> omega)
  omega
theorem AgM_rest {σ : Sto} {k : Nat} {x y : Int32} (h : σ.1 2 k = y) : AgM σ (si (si σ 2 k x) 2 k y) := by
  refine ⟨fun a j _ => ?_, rfl⟩
  rw [si_rd]
  split
  · rename_i q
    rw [q.1, q.2, h]
  · rename_i q
    rw [si_rd, if_neg q]
theorem AgM_same {σ : Sto} {k : Nat} {y : Int32} (h : σ.1 2 k = y) : AgM σ (si σ 2 k y) := by
  refine ⟨fun a j _ => ?_, rfl⟩
  rw [si_rd]
  split
  · rename_i q
    rw [q.1, q.2, h]
  · rfl
theorem MS_si {σ : Sto} {μ : Nat → Int} {n at' : Nat} {x : Int} (h : MS σ μ n) : MS (si σ 2 at' (zI x)) (fun k => if k = at' then x else μ k) n := by
  refine ⟨fun k hk => ?_, ?_⟩
  · rw [si_rd]
    by_cases q : k = at'
    · simp only [q, and_self, if_true]
    · simp only [q, and_false, if_false]
      exact h.1 k hk
  · rw [si_rd, if_neg (by omega)]
    exact h.2
theorem q_fin2 {σC s1 τM : Sto} {FC FM : Option (Int32 × Sto)} {v w : Int32} (h : Inv σC s1) (hM : AgM s1 τM) (hw : w ≠ 4) (e1 : FC = some (v, si σC 0 18 w)) (e2 : FM = some (v, si (si τM 0 1 w) 0 2 (-1))) : ∃ (v : Int32) (τC τM : Sto), FC = some (v, τC) ∧ FM = some (v, τM) ∧ Inv τC τM :=
  ⟨v, _, _, e1, e2, Inv_q h hM hw⟩
theorem sp_gains : Sp_gains Inv := by
  intro σC σM i h
  have h := Inv_0 h
  obtain ⟨z, hz1, hz2, rfl⟩ := zI_of i
  unfold F_X11_gains F_X12_gains
  rw [sw]
  generalize si σM 0 0 0 = s1 at h ⊢
  rcases h.2.2.2 with ⟨u1, u2⟩ | ⟨n, nb, t, hd, ac, μ, un, ⟨⟨l1, l2, l3, l4⟩, ⟨g, g8, g9⟩, hm, ⟨hy, hyn⟩, ht, hb, hn, hk, hp, hi⟩, ca⟩
  · refine q_fin h (w := zI 1) (by decide) (v := zI (-1)) ?_ ?_
    · rw [c_noS0 u1, Option.bind_some, if_neg (show ¬ zI 1 = 0 by decide)]
      simp (disch := omega) only [↓reduceIte, and_self, true_and, and_true, false_and, and_false, Int.reduceEq, Int.reduceLT, Int.reduceLE, sw, Option.bind_some, zl0, zl1, zl2, zl3, zl4, zl5, zl6, zl7, zl8, zl9, zl10, zl20, zl21, zl28, zl33, zl34, zI_neg, zI_add, zI_sub, zI_mul, zI_lt, zI_le, zI_eq, zI_ib, zI_ix, if_pos, if_neg, F_X11_answer, F_X11_refuse, F_X12_tells, F_X12_refused, if_true, if_false]
    · rw [m_isS0 u2, Option.bind_some, if_pos (show zI 0 = 0 by decide)]
      simp (disch := omega) only [↓reduceIte, and_self, true_and, and_true, false_and, and_false, Int.reduceEq, Int.reduceLT, Int.reduceLE, sw, Option.bind_some, zl0, zl1, zl2, zl3, zl4, zl5, zl6, zl7, zl8, zl9, zl10, zl20, zl21, zl28, zl33, zl34, zI_neg, zI_add, zI_sub, zI_mul, zI_lt, zI_le, zI_eq, zI_ib, zI_ix, if_pos, if_neg, F_X11_answer, F_X11_refuse, F_X12_tells, F_X12_refused, if_true, if_false]
  · have T := tC_t l4
    have h4 := g.1.2.1
    rcases (show ¬ (0 ≤ z ∧ z < n) ∨ ∃ s : Nat, z = s ∧ s < n from if q : 0 ≤ z ∧ z < n then Or.inr ⟨z.toNat, by omega, by omega⟩ else Or.inl q) with q | ⟨s, rfl, hs⟩
    · refine q_fin h (w := zI 1) (by decide) (v := zI (-1)) ?_ ?_
      · rw [show F_X11_noService σC (zI z) = some (zI 1) from (c_noS l1 l3 T.1 ht.1.1 h4 ⟨hz1, hz2⟩).trans (congrArg some (if_neg q)), Option.bind_some, if_neg (show ¬ zI 1 = 0 by decide)]
        simp (disch := omega) only [↓reduceIte, and_self, true_and, and_true, false_and, and_false, Int.reduceEq, Int.reduceLT, Int.reduceLE, sw, Option.bind_some, zl0, zl1, zl2, zl3, zl4, zl5, zl6, zl7, zl8, zl9, zl10, zl20, zl21, zl28, zl33, zl34, zI_neg, zI_add, zI_sub, zI_mul, zI_lt, zI_le, zI_eq, zI_ib, zI_ix, if_pos, if_neg, F_X11_answer, F_X11_refuse, F_X12_tells, F_X12_refused, if_true, if_false]
      · rw [show F_X12_isService s1 (zI z) = some (zI 0) from (m_isS hm l2 h4 ⟨hz1, hz2⟩).trans (congrArg some (if_neg q)), Option.bind_some, if_pos (show zI 0 = 0 by decide)]
        simp (disch := omega) only [↓reduceIte, and_self, true_and, and_true, false_and, and_false, Int.reduceEq, Int.reduceLT, Int.reduceLE, sw, Option.bind_some, zl0, zl1, zl2, zl3, zl4, zl5, zl6, zl7, zl8, zl9, zl10, zl20, zl21, zl28, zl33, zl34, zI_neg, zI_add, zI_sub, zI_mul, zI_lt, zI_le, zI_eq, zI_ib, zI_ix, if_pos, if_neg, F_X11_answer, F_X11_refuse, F_X12_tells, F_X12_refused, if_true, if_false]
    · have d1 := du1_le g hs
      have d2 := du_bd g
      have d3 := du1_bd g hs
      have b6 := (g.2.1 s hs).2.2.2
      have b5 := (g.2.2.1 s hs).2.2
      rw [show F_X11_noService σC (zI s) = some (zI 0) from (c_noS l1 l3 T.1 ht.1.1 h4 ⟨hz1, hz2⟩).trans (congrArg some (if_pos (by omega))), Option.bind_some, if_pos (show zI 0 = 0 by decide), show F_X12_isService s1 (zI s) = some (zI 1) from (m_isS hm l2 h4 ⟨hz1, hz2⟩).trans (congrArg some (if_pos (by omega))), Option.bind_some, if_neg (show ¬ zI 1 = 0 by decide), l3, Option.bind_some, y_dues yC_3 T hy ht.1 g, Option.bind_some, Option.bind_some, y_dues1 yC_3 T hy ht.1 g hs, Option.bind_some, Option.bind_some, zI_sub, y_allowedWith yC_3 T hy ht g (by omega), Option.bind_some, Option.bind_some, y_allowed yC_3 T hy ht g, Option.bind_some, zI_sub, m_of5 hm (by omega), Option.bind_some, m_allowed hm g, Option.bind_some, m_of6 hm (by omega), Option.bind_some, Option.bind_some]
      have ix5 : ix (7 * zI (s : Int) + 5) = 7 * s + 5 := by
        rw [zl7, zl5, zI_mul, zI_add, zI_ix (by omega) (by omega)]
        omega
      have ib5 : ib (7 * zI (s : Int) + 5) 534 := by
        rw [zl7, zl5, zI_mul, zI_add, zI_ib (by omega) (by omega)]
        omega
      have was := hm.1 (7 * s + 5) (by omega)
      rw [if_pos ib5, ix5, sw]
      simp (disch := omega) only [zI_le]
      by_cases q : μ (7 * s + 6) ≤ μ (7 * s + 5)
      · rw [if_pos q]
        have z0 : du1 μ s = 0 := by
          unfold du1
          rw [show max 0 (μ (7 * s + 6) - μ (7 * s + 5)) = 0 by omega, Int.zero_mul]
        refine q_fin2 h (AgM_same was) (w := zI 0) (by decide) rfl ?_
        rw [F_X12_gains_60, m_allowed hm g, Option.bind_some, if_pos ib5, ix5, sw, z0, Int.sub_zero, zI_sub]
        rfl
      · rw [if_neg q]
        have g2 : Gd (fun k => if k = 7 * s + 5 then μ (7 * s + 6) else μ k) n (μ 32).toNat := by
          refine ⟨g.1, fun i hi => ?_, fun i hi => ?_, ?_⟩
          · simp (disch := omega) only [if_neg]
            exact g.2.1 i hi
          · have := g.2.2.1 i hi
            simp (disch := omega) only [if_neg]
            refine ⟨this.1, this.2.1, ?_⟩
            split
            · omega
            · exact this.2.2
          · simp (disch := omega) only [if_neg]
            exact g.2.2.2
        refine q_fin2 h (AgM_rest (x := zI (μ (7 * s + 6))) was) (w := zI 0) (by decide) rfl ?_
        rw [F_X12_gains_60, m_allowed (MS_si hm) g2, Option.bind_some, if_pos ib5, ix5, sw, gain_al hs h4, zI_sub]
        rfl
