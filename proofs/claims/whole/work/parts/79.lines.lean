/-! READING: THE LINES OF A TEXT -/
theorem TkR_end {σ τ : Sto} (h : TkR σ τ) : (σ.1 2 3 = 0 ∧ τ.1 0 9 = 1) ∨ (¬ σ.1 2 3 = 0 ∧ ¬ τ.1 0 9 = 1) := by
  rcases h.2 with ⟨a, b⟩ | ⟨a, b, -⟩ | ⟨a, b, -⟩ | ⟨a, b, -⟩ | ⟨a, b, -⟩ | ⟨a, b⟩
  · exact Or.inl ⟨a, b⟩
  · exact Or.inr ⟨by rw [a]; decide, by rw [b]; decide⟩
  · exact Or.inr ⟨by rw [a]; decide, by rw [b]; decide⟩
  · exact Or.inr ⟨by rw [a]; decide, by rw [b]; decide⟩
  · exact Or.inr ⟨by rw [a]; decide, by rw [b]; decide⟩
  · exact Or.inr ⟨by rw [a]; decide, by rw [b]; decide⟩
theorem j_last {T : Nat → Int} {z t L n nb : Nat} {σ0 τ0 σ τ : Sto} (h : Sy T z t L σ0 τ0 σ τ n nb n nb) (d : Dt σ τ t n nb) (hn : n ≤ 4 ∧ nb ≤ 4) (q3 : ¬ σ.1 2 3 = 3) (j : Nat) : ∃ y σ', F_X6_readText_92 σ 1 = some (y, σ') ∧ TxO t σ0 τ0 y σ' (F_X12_text_97 (j + 1) τ) := by
  have ht := h.2.2.1.2
  have TC := tC_t ht
  have h7 := Sy_7 h
  obtain ⟨c1, c2, c3, c4⟩ := h.2.2.2.1
  have h8 : σ.1 2 8 = σ0.1 2 8 := by
    obtain ⟨⟨p, -, -, -, h38⟩, -⟩ := h
    exact h38
  rw [F_X12_text_97, m_isS59 h.2.1 h7, Option.bind_some, if_neg q3, if_pos (show (0 : Int32) = 0 from rfl), if_pos h7]
  unfold F_X6_readText_92 F_X6_readText_130
  rw [if_neg (show ¬ (1 : Int32) = 0 by decide)]
  rcases TkR_end h.2.1 with ⟨e1, e2⟩ | ⟨e1, e2⟩
  · rw [if_pos e1, h.2.2.1.1, Option.bind_some, if_pos TC.1, c1, if_pos e2]
    unfold F_X12_text_137
    rw [if_pos h7, c3]
    by_cases q : n = 0
    · have hz := flw_Fz τ (f := 5) (Or.inr (Or.inr (Or.inr (Or.inr rfl))))
      rw [if_neg (show ¬ (0 : Int32) < zI n from by rw [zl0]; exact zltF (by omega)), c_fail, Option.bind_some, if_pos (show (0 : Int32) = 0 from rfl), if_pos (show zI n = (0 : Int32) from by rw [q]; decide), m_flaw h7, Option.bind_some, z_156 hz]
      exact ⟨0, fal σ 5, rfl, Or.inr ⟨rfl, flw τ 5, rfl, j_fail h (Or.inr (Or.inr (Or.inr (Or.inr rfl))))⟩⟩
    · rw [if_pos (show (0 : Int32) < zI n from by rw [zl0]; exact zltT (by omega)), if_neg (show ¬ zI n = (0 : Int32) from by rw [zl0, zI_eq (by omega) (by omega) (by omega) (by omega)]; omega)]
      unfold F_X12_text_156
      rw [h7, if_pos (Int32.le_refl _)]
      exact ⟨1, σ, rfl, Or.inl ⟨rfl, τ, n, nb, rfl, by omega, ⟨h.2.2.1.1, c1, c2, c3, c4⟩, h8, h7, h.2.2.2.2.1, h.2.2.2.2.2, d⟩⟩
  · have hz := flw_Fz τ (f := 1) (Or.inl rfl)
    rw [if_neg e1, c_wrap, if_neg e2, m_flaw h7, Option.bind_some]
    unfold F_X12_text_137
    rw [if_neg hz.1, z_156 hz]
    exact ⟨0, fal σ 1, rfl, Or.inr ⟨rfl, flw τ 1, rfl, j_fail h (Or.inl rfl)⟩⟩
theorem j_loop {T : Nat → Int} {z t : Nat} {σ0 τ0 : Sto} : ∀ (e L j j' : Nat) (x : Int32) (σ τ : Sto), L + e = z + 1 → e < j → e < j' → LnO T z t L σ0 τ0 x σ τ → L ≤ z → ∃ y σ', F_X6_readText_55 j σ x (zI L) = some (y, σ') ∧ TxO t σ0 τ0 y σ' (F_X12_text_97 j' τ) := by
  intro e
  induction e with
  | zero =>
    intro L j j' x σ τ k1 k2 k3 h hL
    omega
  | succ e ih =>
    intro L j j' x σ τ k1 k2 k3 h hL
    obtain ⟨j, rfl⟩ : ∃ x, j = x + 1 := ⟨j - 1, by omega⟩
    obtain ⟨j', rfl⟩ : ∃ x, j' = x + 1 := ⟨j' - 1, by omega⟩
    rcases h with ⟨rfl, n, nb, hn, h, d⟩ | ⟨rfl, h⟩
    · have h7 := Sy_7 h
      have ht := h.2.2.1.2
      by_cases q3 : σ.1 2 3 = 3
      · have pz : L < z ∧ z ≤ 500 := by
          obtain ⟨⟨p, p1, p2, p3, p4⟩, -⟩ := h
          have a := p3 (by rw [q3]; decide)
          have b := p1.1.2
          omega
        obtain ⟨σ1, τ1, a1, a2, a3, a4, a5⟩ := Sy_L h (by rw [q3]; decide)
        obtain ⟨x, σ2, τ2, b1, b2, b3⟩ := j_line a3 (Dt_rd ht d a4 a5) hn
        obtain ⟨y, σ', r1, r2⟩ := ih (L + 1) j j' x σ2 τ2 (by omega) (by omega) (by omega) b3 (by omega)
        refine ⟨y, σ', ?_, ?_⟩
        · rw [F_X6_readText_55, if_neg (show ¬ (500 : Int32) ≤ zI L from by rw [show (500 : Int32) = zI 500 from by decide]; exact zleF (by omega)), if_neg (show ¬ (1 : Int32) = 0 by decide), if_pos q3, a1, Option.bind_some, b1, Option.bind_some, zI_s1]
          exact r1
        · rw [F_X12_text_97, m_isS59 h.2.1 h7, Option.bind_some, if_pos q3, if_neg (show ¬ (1 : Int32) = 0 by decide), a2, Option.bind_some, b2, Option.bind_some]
          exact r2
      · obtain ⟨y, σ', r1, r2⟩ := j_last h d hn q3 j'
        refine ⟨y, σ', ?_, r2⟩
        rw [F_X6_readText_55, if_neg (show ¬ (1 : Int32) = 0 by decide), if_neg q3, r1]
        by_cases q : (500 : Int32) ≤ zI L
        · rw [if_pos q]
        · rw [if_neg q]
    · refine ⟨0, σ, c_55_0 σ j _, Or.inr ⟨rfl, τ, z_97 (Bad_Fz h) j', h⟩⟩
