/-! FEED -/
def cbyte (x s : Int32) : Int32 := ((x.toUInt32 >>> (s.toUInt32 &&& Int32.toUInt32 31)).toInt32) &&& 255
def mbyte (x s : Int32) : Int32 := (x >>> (s &&& 31)) &&& 255
theorem by_hi (i : Nat) (h : 8 ≤ i) : (255#32).getLsbD i = false := by
  rw [show (255#32) = BitVec.ofNat 32 (2 ^ 8 - 1) from rfl, BitVec.getLsbD_ofNat, Nat.testBit_two_pow_sub_one]
  simp
  omega
theorem by_eq (a b : BitVec 32) (h : ∀ i, i < 8 → a.getLsbD i = b.getLsbD i) : a &&& 255#32 = b &&& 255#32 := by
  apply BitVec.eq_of_getLsbD_eq
  intro i hi
  rw [BitVec.getLsbD_and, BitVec.getLsbD_and]
  by_cases q : i < 8
  · rw [h i q]
  · rw [by_hi i (by omega), Bool.and_false, Bool.and_false]
theorem by_sh (x : Int32) (k : Nat) (hk : k ≤ 24) : (x.toBitVec >>> k) &&& 255#32 = (x.toBitVec.sshiftRight k) &&& 255#32 := by
  apply by_eq
  intro i hi
  rw [BitVec.getLsbD_ushiftRight, BitVec.getLsbD_sshiftRight, if_pos (by omega), show decide (32 ≤ i) = false from decide_eq_false (by omega)]
  rfl
theorem by24 (x : Int32) : cbyte x 24 = mbyte x 24 := Int32.toBitVec_inj.1 (by_sh x 24 (by omega))
theorem by16 (x : Int32) : cbyte x 16 = mbyte x 16 := Int32.toBitVec_inj.1 (by_sh x 16 (by omega))
theorem by8 (x : Int32) : cbyte x 8 = mbyte x 8 := Int32.toBitVec_inj.1 (by_sh x 8 (by omega))
theorem by0 (x : Int32) : cbyte x 0 = mbyte x 0 := Int32.toBitVec_inj.1 (by_sh x 0 (by omega))
theorem by_rg (x s : Int32) : ∃ b : Int, 0 ≤ b ∧ b ≤ 255 ∧ mbyte x s = zI b := by
  have h : ∀ y : Int32, 0 ≤ (y &&& 255).toInt ∧ (y &&& 255).toInt ≤ 255 := by
    intro y
    have e : (y &&& 255).toBitVec.toNat ≤ 255 := by
      rw [Int32.toBitVec_and, BitVec.toNat_and]
      exact Nat.and_le_right
    have e2 : (y &&& 255).toInt = (y &&& 255).toBitVec.toInt := rfl
    rw [e2, BitVec.toInt_eq_toNat_cond, if_pos (by omega)]
    omega
  exact ⟨_, (h _).1, (h _).2, (zI_toInt _).symm⟩
def AFc (σ τ : Sto) : Prop := (∀ a k, ¬ (a = 0 ∧ k = 14) → a ≠ 1 → τ.1 a k = σ.1 a k) ∧ τ.2 = σ.2
def BFm (σ τ : Sto) : Prop := (∀ a k, ¬ (a = 0 ∧ k = 4) → a ≠ 1 → τ.1 a k = σ.1 a k) ∧ τ.2 = σ.2
/-- the class's tape: bytes b from m on, j of them laid -/
def FSc (σ τ : Sto) (b : Nat → Int32) (m j : Nat) : Prop := AFc σ τ ∧ τ.1 0 14 = zI (m + j : Nat) ∧ ∀ i, τ.1 1 i = if m ≤ i ∧ i < m + j then b (i - m) else σ.1 1 i
def FSm (σ τ : Sto) (b : Nat → Int32) (m j : Nat) : Prop := BFm σ τ ∧ τ.1 0 4 = zI m ∧ ∀ i, τ.1 1 i = if m ≤ i ∧ i < m + j then b (i - m) else σ.1 1 i
theorem c_put1 {σ τ : Sto} {b : Nat → Int32} {m j k : Nat} {x s : Int32} (h : FSc σ τ b m j) (hm : m + j < 500) (hs : ¬ s < 0) (hb : b j = cbyte x s) : ∃ υ, F_X11_putNumber_3 (k + 1) τ x s = F_X11_putNumber_3 k υ x (s + (-8)) ∧ FSc σ υ b m (j + 1) := by
  obtain ⟨⟨h1, h2⟩, h3, h4⟩ := h
  refine ⟨si (si τ 1 (m + j) (b j)) 0 14 (zI (m + (j + 1) : Nat)), ?_, ⟨fun a k q1 q2 => ?_, h2⟩, ?_, fun i => ?_⟩
  · rw [F_X11_putNumber_3, if_neg hs, h3, if_neg (show ¬ 500 ≤ zI ((m + j : Nat) : Int) from by rw [show (500 : Int32) = zI 500 from by decide, zI_le (by omega) (by omega) (by omega) (by omega)]; omega), if_pos (show ib (zI ((m + j : Nat) : Int)) 500 from by rw [zI_ib (by omega) (by omega)]; omega), zI_ix (by omega) (by omega), sw, sw, si_rd, if_neg (by omega), h3, zl1, zI_add, hb]
    rfl
  · rw [si_rd, if_neg q1, si_rd, if_neg (by omega)]
    exact h1 a k q1 q2
  · rw [si_rd, if_pos (by omega)]
  · rw [si_rd, if_neg (by omega), si_rd]
    by_cases q : i = m + j
    · rw [if_pos ⟨rfl, q⟩, if_pos (by omega), q, show m + j - m = j by omega]
    · rw [if_neg (by omega), h4 i]
      by_cases q2 : m ≤ i ∧ i < m + j
      · rw [if_pos q2, if_pos (by omega)]
      · rw [if_neg q2, if_neg (by omega)]
theorem c_put {σ τ : Sto} {b : Nat → Int32} {m j : Nat} {x : Int32} (h : FSc σ τ b m j) (hm : m + j + 4 ≤ 500) (h0 : b j = cbyte x 24) (h1 : b (j + 1) = cbyte x 16) (h2 : b (j + 2) = cbyte x 8) (h3 : b (j + 3) = cbyte x 0) : ∃ υ, F_X11_putNumber τ x = some υ ∧ FSc σ υ b m (j + 4) := by
  obtain ⟨υ1, e1, f1⟩ := c_put1 (k := 5999) (s := 24) h (by omega) (by decide) h0
  obtain ⟨υ2, e2, f2⟩ := c_put1 (k := 5998) (s := 16) f1 (by omega) (by decide) h1
  obtain ⟨υ3, e3, f3⟩ := c_put1 (k := 5997) (s := 8) f2 (by omega) (by decide) h2
  obtain ⟨υ4, e4, f4⟩ := c_put1 (k := 5996) (s := 0) f3 (by omega) (by decide) h3
  refine ⟨υ4, ?_, f4⟩
  rw [F_X11_putNumber, show FU = 5999 + 1 from rfl, e1, show (24 + (-8) : Int32) = 16 from by decide, e2, show (16 + (-8) : Int32) = 8 from by decide, e3, show (8 + (-8) : Int32) = 0 from by decide, e4, F_X11_putNumber_3, if_pos (by decide)]
/-- the twenty bytes -/
def fby (a0 a1 a2 a3 a4 : Int32) (k : Nat) : Int32 := mbyte (if k < 4 then a0 else if k < 8 then a1 else if k < 12 then a2 else if k < 16 then a3 else a4) (if k % 4 = 0 then 24 else if k % 4 = 1 then 16 else if k % 4 = 2 then 8 else 0)
theorem m_put {σ : Sto} {m : Nat} (hm : m + 20 ≤ 500) (a0 a1 a2 a3 a4 : Int32) : ∀ (d j k : Nat) (τ : Sto), j + d = 20 → d < k → FSm σ τ (fby a0 a1 a2 a3 a4) m j → ∃ υ, F_X12_feed_23 k τ a0 a1 a2 a3 a4 (zI j) = some (zI (m + 20 : Nat), υ) ∧ BFm σ υ ∧ υ.1 0 4 = zI (m + 20 : Nat) ∧ ∀ i, υ.1 1 i = if m ≤ i ∧ i < m + 20 then fby a0 a1 a2 a3 a4 (i - m) else σ.1 1 i := by
  intro d
  induction d with
  | zero =>
    intro j k τ hj hk h
    obtain ⟨k, rfl⟩ : ∃ j, k = j + 1 := ⟨k - 1, by omega⟩
    obtain rfl : j = 20 := by omega
    obtain ⟨⟨h1, h2⟩, h3, h4⟩ := h
    refine ⟨si τ 0 4 (zI (m + 20 : Nat)), ?_, ⟨fun a k q1 q2 => ?_, h2⟩, ?_, fun i => ?_⟩
    · rw [F_X12_feed_23, if_pos (by decide), sw, si_rd, if_pos ⟨rfl, rfl⟩, h3, zl20, zI_add]
      rfl
    · rw [si_rd, if_neg q1]
      exact h1 a k q1 q2
    · rw [si_rd, if_pos ⟨rfl, rfl⟩]
    · rw [si_rd, if_neg (by omega)]
      exact h4 i
  | succ d ih =>
    intro j k τ hj hk h
    obtain ⟨k, rfl⟩ : ∃ j, k = j + 1 := ⟨k - 1, by omega⟩
    obtain ⟨⟨h1, h2⟩, h3, h4⟩ := h
    have f : FSm σ (si τ 1 (m + j) (fby a0 a1 a2 a3 a4 j)) (fby a0 a1 a2 a3 a4) m (j + 1) := by
      refine ⟨⟨fun a k q1 q2 => ?_, h2⟩, ?_, fun i => ?_⟩
      · rw [si_rd, if_neg (by omega)]
        exact h1 a k q1 q2
      · rw [si_rd, if_neg (by omega)]
        exact h3
      · rw [si_rd]
        by_cases q : i = m + j
        · rw [if_pos ⟨rfl, q⟩, if_pos (by omega), q, show m + j - m = j by omega]
        · rw [if_neg (by omega), h4 i]
          by_cases q2 : m ≤ i ∧ i < m + j
          · rw [if_pos q2, if_pos (by omega)]
          · rw [if_neg q2, if_neg (by omega)]
    obtain ⟨υ, e, r⟩ := ih (j + 1) k _ (by omega) (by omega) f
    refine ⟨υ, ?_, r⟩
    have sh : (24 - (8 * (zI (j : Int) - zI (j : Int) / 4 * 4)) : Int32) = if j % 4 = 0 then 24 else if j % 4 = 1 then 16 else if j % 4 = 2 then 8 else 0 := by
      have e4 : (4 : Int32) = zI ((4 : Nat) : Int) := by decide
      rw [e4, zI_mod (by omega) (by omega)]
      have : j % 4 < 4 := Nat.mod_lt _ (by omega)
      rcases (show j % 4 = 0 ∨ j % 4 = 1 ∨ j % 4 = 2 ∨ j % 4 = 3 by omega) with q | q | q | q <;> rw [q] <;> decide
    have put : ∀ x, mbyte x (if j % 4 = 0 then 24 else if j % 4 = 1 then 16 else if j % 4 = 2 then 8 else 0) = fby a0 a1 a2 a3 a4 j → F_X12_feed_76 (F_X12_feed_23 k) τ a0 a1 a2 a3 a4 (zI j) x = some (zI (m + 20 : Nat), υ) := by
      intro x hx
      rw [F_X12_feed_76, h3, zI_add, if_pos (show ib (zI ((m : Int) + j)) 500 from by rw [zI_ib (by omega) (by omega)]; omega), zI_ix (by omega) (by omega), sh, sw, show ((m : Int) + j).toNat = m + j by omega]
      rw [← hx] at e
      rw [zl1, zI_add]
      exact e
    have c20 : ¬ (20 : Int32) ≤ zI j := by rw [zl20, zI_le (by omega) (by omega) (by omega) (by omega)]; omega
    have c4 : ((4 : Int32) ≤ zI j) = (4 ≤ j) := by rw [zl4, zI_le (by omega) (by omega) (by omega) (by omega)]; exact propext ⟨by omega, by omega⟩
    have c8 : ((8 : Int32) ≤ zI j) = (8 ≤ j) := by rw [zl8, zI_le (by omega) (by omega) (by omega) (by omega)]; exact propext ⟨by omega, by omega⟩
    have c12 : ((12 : Int32) ≤ zI j) = (12 ≤ j) := by rw [show (12 : Int32) = zI 12 from by decide, zI_le (by omega) (by omega) (by omega) (by omega)]; exact propext ⟨by omega, by omega⟩
    have c16 : ((16 : Int32) ≤ zI j) = (16 ≤ j) := by rw [show (16 : Int32) = zI 16 from by decide, zI_le (by omega) (by omega) (by omega) (by omega)]; exact propext ⟨by omega, by omega⟩
    rw [F_X12_feed_23, if_neg c20]
    rcases (show j < 4 ∨ (4 ≤ j ∧ j < 8) ∨ (8 ≤ j ∧ j < 12) ∨ (12 ≤ j ∧ j < 16) ∨ 16 ≤ j by omega) with q | q | q | q | q
    · rw [if_neg (by rw [c4]; omega)]
      refine put _ ?_
      unfold fby
      rw [if_pos (show j < 4 by omega)]
    · rw [if_pos (by rw [c4]; omega), if_neg (by rw [c8]; omega)]
      refine put _ ?_
      unfold fby
      rw [if_neg (show ¬ j < 4 by omega), if_pos (show j < 8 by omega)]
    · rw [if_pos (by rw [c4]; omega), if_pos (by rw [c8]; omega), if_neg (by rw [c12]; omega)]
      refine put _ ?_
      unfold fby
      rw [if_neg (show ¬ j < 4 by omega), if_neg (show ¬ j < 8 by omega), if_pos (show j < 12 by omega)]
    · rw [if_pos (by rw [c4]; omega), if_pos (by rw [c8]; omega), if_pos (by rw [c12]; omega), if_neg (by rw [c16]; omega)]
      refine put _ ?_
      unfold fby
      rw [if_neg (show ¬ j < 4 by omega), if_neg (show ¬ j < 8 by omega), if_neg (show ¬ j < 12 by omega), if_pos (show j < 16 by omega)]
    · rw [if_pos (by rw [c4]; omega), if_pos (by rw [c8]; omega), if_pos (by rw [c12]; omega), if_pos (by rw [c16]; omega)]
      refine put _ ?_
      unfold fby
      rw [if_neg (show ¬ j < 4 by omega), if_neg (show ¬ j < 8 by omega), if_neg (show ¬ j < 12 by omega), if_neg (show ¬ j < 16 by omega)]
theorem sp_feed : Sp_feed Inv := by
  intro σC σM a0 a1 a2 a3 a4 h
  have h := Inv_0 h
  unfold F_X11_feed F_X12_feed
  rw [sw]
  generalize si σM 0 0 0 = s1 at h ⊢
  obtain ⟨m, t1, t2, t3, t4⟩ := h.1.1
  rw [t2, t3, zl20, zI_add, show (500 : Int32) = zI 500 from by decide]
  by_cases q : m + 20 ≤ 500
  · have c : zI ((m : Int) + 20) ≤ zI 500 := by rw [zI_le (by omega) (by omega) (by omega) (by omega)]; omega
    have f0 : FSc σC σC (fby a0 a1 a2 a3 a4) m 0 := ⟨⟨fun _ _ _ _ => rfl, rfl⟩, t2, fun i => by rw [if_neg (by omega)]⟩
    obtain ⟨x1, e1, f1⟩ := c_put (x := a0) f0 (by omega) (by24 _).symm (by16 _).symm (by8 _).symm (by0 _).symm
    obtain ⟨x2, e2, f2⟩ := c_put (x := a1) f1 (by omega) (by24 _).symm (by16 _).symm (by8 _).symm (by0 _).symm
    obtain ⟨x3, e3, f3⟩ := c_put (x := a2) f2 (by omega) (by24 _).symm (by16 _).symm (by8 _).symm (by0 _).symm
    obtain ⟨x4, e4, f4⟩ := c_put (x := a3) f3 (by omega) (by24 _).symm (by16 _).symm (by8 _).symm (by0 _).symm
    obtain ⟨x5, e5, f5⟩ := c_put (x := a4) f4 (by omega) (by24 _).symm (by16 _).symm (by8 _).symm (by0 _).symm
    obtain ⟨υ, g1, g2, g3, g4⟩ := m_put (σ := s1) q a0 a1 a2 a3 a4 20 0 FU s1 (by omega) (FU_lt (by omega)) ⟨⟨fun _ _ _ _ => rfl, rfl⟩, t3, fun i => by rw [if_neg (by omega)]⟩
    obtain ⟨hC, f6, f7⟩ := f5
    refine ⟨zI (m + 20 : Nat), x5, υ, ?_, ?_, ?_⟩
    · rw [if_pos c, e1, Option.bind_some, e2, Option.bind_some, e3, Option.bind_some, e4, Option.bind_some, e5, Option.bind_some, f6]
    · rw [if_pos c]
      exact g1
    · have h' := h
      obtain ⟨⟨-, ⟨m2, w1, w2, w3, w4⟩, -, -⟩, ⟨q1, q2, q3⟩, ⟨z1, z2⟩, -⟩ := h'
      refine Inv_gen h ⟨fun a k q => hC.1 a k (by omega) (by omega), hC.2⟩ ⟨fun a k q => g2.1 a k (by omega) (by omega), g2.2⟩ (fun a h1 h2 => ?_) ⟨m + 20, q, f6, g3, fun i hi => ?_⟩ ⟨m2, w1, ?_, ?_, fun i hi => ?_⟩ ⟨?_, ?_, ?_⟩ ⟨?_, ?_⟩
      · funext k
        exact hC.1 a k (by omega) (by omega)
      · rw [f7 i, g4 i]
        by_cases qq : m ≤ i ∧ i < m + 20
        · rw [if_pos qq, if_pos (by omega)]
          refine ⟨rfl, ?_⟩
          exact by_rg _ _
        · rw [if_neg qq, if_neg (by omega)]
          exact t4 i (by omega)
      · rw [hC.1 _ _ (by omega) (by omega)]; exact w2
      · rw [g2.1 _ _ (by omega) (by omega)]; exact w3
      · rw [hC.1 _ _ (by omega) (by omega), g2.1 _ _ (by omega) (by omega)]; exact w4 i hi
      · rw [hC.1 _ _ (by omega) (by omega), g2.1 _ _ (by omega) (by omega)]; exact q1
      · rw [hC.1 _ _ (by omega) (by omega), g2.1 _ _ (by omega) (by omega)]; exact q2
      · rw [hC.1 _ _ (by omega) (by omega), hC.1 _ _ (by omega) (by omega), g2.1 _ _ (by omega) (by omega)]; exact q3
      · rw [g2.1 _ _ (by omega) (by omega)]; exact z1
      · rw [g2.1 _ _ (by omega) (by omega)]; exact z2
  · have c : ¬ zI ((m : Int) + 20) ≤ zI 500 := by rw [zI_le (by omega) (by omega) (by omega) (by omega)]; omega
    exact ⟨-1, σC, s1, if_neg c, if_neg c, h⟩
