/-! A YEAR'S END -/
theorem crm_bd {μ : Nat → Int} {n c : Nat} (g : Gd μ n c) : 0 ≤ μ 30 * al μ n ∧ μ 30 * al μ n ≤ 300000000 ∧ 0 ≤ (μ 30 * al μ n).tdiv 100 ∧ (μ 30 * al μ n).tdiv 100 ≤ al μ n := by
  have a := al_bd0 g
  have b := g.2.2.2.2.2.1
  have m := mul_bd (a := 100) (b := 3000000) b.1 b.2 a.1 a.2
  have m2 := mul_bd (a := 100) (b := al μ n) b.1 b.2 a.1 (Int.le_refl _)
  rw [Int.tdiv_eq_ediv_of_nonneg m.1]
  omega
theorem car_bd {μ : Nat → Int} {n c : Nat} (g : Gd μ n c) : -32000 ≤ car μ n ∧ car μ n ≤ 24000 * (c + 1) := by
  have a := al_bd g (du_bd g).1
  have s := sp_bd g
  have m := crm_bd g
  have e : al μ n = alw μ n (du μ n) := rfl
  unfold car
  split <;> omega
theorem m_ends {σ : Sto} {μ : Nat → Int} {n c : Nat} (h : MS σ μ n) (g : Gd μ n c) : ∃ υ, F_X12_ends σ = some υ ∧ MS υ (en μ n) n ∧ (∀ a k, a ≠ 2 ∨ 34 ≤ k → υ.1 a k = σ.1 a k) ∧ υ.2 = σ.2 := by
  have h4 := g.1.2.1
  have a := al_bd0 g
  have s := sp_bd g
  have m := crm_bd g
  have e33 : ix 33 = 33 := by decide
  have e30 : ix 30 = 30 := by decide
  have key : ∀ (d j k : Nat) (τ : Sto), j + d = n → d < k → MS τ (fun k => if k = 33 then car μ n else if k < 7 * j ∧ k % 7 = 0 then μ (k + 1) else μ k) n → (∀ a k, a ≠ 2 ∨ 34 ≤ k → τ.1 a k = σ.1 a k) → τ.2 = σ.2 → ∃ υ, F_X12_ends_55 k τ (zI j) = some υ ∧ MS υ (en μ n) n ∧ (∀ a k, a ≠ 2 ∨ 34 ≤ k → υ.1 a k = σ.1 a k) ∧ υ.2 = σ.2 := by
    intro d
    induction d with
    | zero =>
      intro j k τ hj hk h1 h2 h3
      obtain ⟨k, rfl⟩ : ∃ j, k = j + 1 := ⟨k - 1, by omega⟩
      obtain rfl : j = n := by omega
      exact ⟨τ, by rw [F_X12_ends_55, h1.2, if_pos (Int32.le_refl _)], h1, h2, h3⟩
    | succ d ih =>
      intro j k τ hj hk h1 h2 h3
      obtain ⟨k, rfl⟩ : ∃ j, k = j + 1 := ⟨k - 1, by omega⟩
      have e1 := m_of1 h1 (s := j) (by omega)
      simp (disch := omega) only [if_neg] at e1
      obtain ⟨υ, r1, r2⟩ := ih (j + 1) k (si τ 2 (7 * j) (zI (μ (7 * j + 1)))) (by omega) (by omega) (by
        refine ⟨fun k hk => ?_, by rw [si_rd, if_neg (by omega)]; exact h1.2⟩
        have q0 := h1.1 k hk
        dsimp only at q0 ⊢
        rw [si_rd]
        by_cases q : k = 7 * j
        · rw [if_pos ⟨rfl, q⟩, if_neg (by omega), if_pos (by omega), q]
        · rw [if_neg (by omega), q0]
          by_cases q2 : k = 33
          · rw [if_pos q2, if_pos q2]
          · rw [if_neg q2, if_neg q2]
            by_cases q3 : k < 7 * j ∧ k % 7 = 0
            · rw [if_pos q3, if_pos (by omega)]
            · rw [if_neg q3, if_neg (by omega)]) (fun a k q => by rw [si_rd, if_neg (by omega)]; exact h2 a k q) h3
      refine ⟨υ, ?_, r2⟩
      have ixj : ix (7 * zI (j : Int) + 0) = 7 * j := by rw [zl7, zl0, zI_mul, zI_add, zI_ix (by omega) (by omega)]; omega
      have ibj : ib (7 * zI (j : Int) + 0) 534 := by rw [zl7, zl0, zI_mul, zI_add, zI_ib (by omega) (by omega)]; omega
      rw [F_X12_ends_55, h1.2, if_neg (show ¬ zI (n : Int) ≤ zI (j : Int) from by rw [zI_le (by omega) (by omega) (by omega) (by omega)]; omega), e1, Option.bind_some, if_pos ibj, ixj, sw, zl1, zI_add]
      exact r1
  have fin : ∀ x : Int, x = car μ n → ∃ υ, F_X12_ends_55 FU (si σ 2 33 (zI x)) 0 = some υ ∧ MS υ (en μ n) n ∧ (∀ a k, a ≠ 2 ∨ 34 ≤ k → υ.1 a k = σ.1 a k) ∧ υ.2 = σ.2 := by
    intro x hx
    refine key n 0 FU (si σ 2 33 (zI x)) (by omega) (FU_lt (by omega)) ⟨fun k hk => ?_, by rw [si_rd, if_neg (by omega)]; exact h.2⟩ (fun a k q => by rw [si_rd, if_neg (by omega)]) rfl
    dsimp only
    rw [si_rd]
    by_cases q : k = 33
    · rw [if_pos ⟨rfl, q⟩, if_pos q, hx]
    · rw [if_neg (by omega), if_neg q, if_neg (by omega)]; exact h.1 k hk
  unfold F_X12_ends
  rw [m_allowed h g, Option.bind_some, m_spent h g, Option.bind_some, e33, e30, h.1 30 (by omega), zI_mul, zl100, zI_div (by omega) (by omega) (by omega) (by omega), zI_sub]
  by_cases q : 0 ≤ al μ n - sp μ n
  · rw [if_pos (show (0 : Int32) ≤ zI (al μ n - sp μ n) from by rw [zl0, zI_le (by omega) (by omega) (by omega) (by omega)]; exact q)]
    by_cases q2 : (μ 30 * al μ n).tdiv 100 ≤ al μ n - sp μ n
    · rw [if_pos (show zI ((μ 30 * al μ n).tdiv 100) ≤ zI (al μ n - sp μ n) from by rw [zI_le (by omega) (by omega) (by omega) (by omega)]; exact q2), sw]
      exact fin _ (by unfold car; rw [if_neg (by omega)]; omega)
    · rw [if_neg (show ¬ zI ((μ 30 * al μ n).tdiv 100) ≤ zI (al μ n - sp μ n) from by rw [zI_le (by omega) (by omega) (by omega) (by omega)]; exact q2), sw]
      exact fin _ (by unfold car; rw [if_neg (by omega)]; omega)
  · rw [if_neg (show ¬ (0 : Int32) ≤ zI (al μ n - sp μ n) from by rw [zl0, zI_le (by omega) (by omega) (by omega) (by omega)]; exact q), sw, zl2, zI_mul]
    exact fin _ (by unfold car; rw [if_pos (by omega)])
theorem y_end {σ : Sto} {y t n c : Nat} {μ : Nat → Int} (hy : yC y) (ht : tC t) (h : YR σ y μ n) (k : TR σ t μ n) (g : Gd μ n c) : ∃ τ, F_X10_end σ y t = some τ ∧ YR τ y (en μ n) n ∧ τ.1 y 0 = σ.1 y 0 + 1 ∧ (∀ a j, a ≠ y → a ≠ y + 1 → τ.1 a j = σ.1 a j) ∧ τ.2 = σ.2 := by
  have h4 := g.1.2.1
  have a := al_bd0 g
  have s := sp_bd g
  have m := crm_bd g
  have e0 : ix 0 = 0 := by decide
  have e4 : ix 4 = 4 := by decide
  have fin : ∀ x : Int, x = car μ n → ∃ τ, F_X10_end_40 σ y y (zI x) = some τ ∧ YR τ y (en μ n) n ∧ τ.1 y 0 = σ.1 y 0 + 1 ∧ (∀ a j, a ≠ y → a ≠ y + 1 → τ.1 a j = σ.1 a j) ∧ τ.2 = σ.2 := by
    intro x hx
    unfold F_X10_end_40
    simp only [sw, hy.1, if_true, e0, e4]
    refine ⟨_, rfl, ⟨fun i hi => ⟨?_, ?_, ?_⟩, fun r hr => ?_, ?_⟩, ?_, fun a j q1 q2 => ?_, rfl⟩
    · unfold en
      rw [if_neg (by omega), if_pos (by omega)]
      simp (disch := omega) only [si_rd, sI_rd, if_neg, if_pos, va_cpy, if_true, Nat.zero_add, Nat.sub_zero]
      exact (h.1 i hi).2.1
    · unfold en
      rw [if_neg (by omega), if_neg (by omega)]
      simp (disch := omega) only [si_rd, sI_rd, if_neg]
      exact (h.1 i hi).2.1
    · unfold en
      rw [if_neg (by omega), if_neg (by omega)]
      simp (disch := omega) only [si_rd, sI_rd, if_neg]
      exact (h.1 i hi).2.2
    · unfold en
      rw [if_neg (by omega), if_neg (by omega)]
      simp (disch := omega) only [si_rd, sI_rd, if_neg]
      exact h.2.1 r hr
    · unfold en
      rw [if_pos rfl, ← hx]
      simp (disch := omega) only [si_rd, sI_rd, if_neg]
      simp
    · simp (disch := omega) only [si_rd, sI_rd, if_neg]
      simp
    · simp (disch := omega) only [si_rd, sI_rd, if_neg]
  unfold F_X10_end
  rw [if_pos hy.1, y_allowed hy ht h k g, Option.bind_some, y_spent hy ht h k g, Option.bind_some, show ix 2 = 2 from by decide, show σ.1 (y + 4) 2 = zI (μ 30) from h.2.1 2 (by omega), zI_mul, zl100, zI_div (by omega) (by omega) (by omega) (by omega), zI_sub]
  by_cases q : 0 ≤ al μ n - sp μ n
  · rw [if_pos (show (0 : Int32) ≤ zI (al μ n - sp μ n) from by rw [zl0, zI_le (by omega) (by omega) (by omega) (by omega)]; exact q)]
    by_cases q2 : (μ 30 * al μ n).tdiv 100 < al μ n - sp μ n
    · rw [if_pos (show zI ((μ 30 * al μ n).tdiv 100) < zI (al μ n - sp μ n) from by rw [zI_lt (by omega) (by omega) (by omega) (by omega)]; exact q2)]
      exact fin _ (by unfold car; rw [if_neg (by omega)]; omega)
    · rw [if_neg (show ¬ zI ((μ 30 * al μ n).tdiv 100) < zI (al μ n - sp μ n) from by rw [zI_lt (by omega) (by omega) (by omega) (by omega)]; exact q2)]
      exact fin _ (by unfold car; rw [if_neg (by omega)]; omega)
  · rw [if_neg (show ¬ (0 : Int32) ≤ zI (al μ n - sp μ n) from by rw [zl0, zI_le (by omega) (by omega) (by omega) (by omega)]; exact q), zl2, zI_mul]
    exact fin _ (by unfold car; rw [if_pos (by omega)])
