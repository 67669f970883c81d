/-! READING: A LINE, A TEXT -/
def LnO (T : Nat → Int) (z t L : Nat) (σ0 τ0 : Sto) (x : Int32) (σ τ : Sto) : Prop := (x = 1 ∧ ∃ m mb, (m ≤ 4 ∧ mb ≤ 4) ∧ Sy T z t L σ0 τ0 σ τ m mb m mb ∧ Dt σ τ t m mb) ∨ (x = 0 ∧ Bad t σ0 τ0 σ τ)
theorem LnO_w {T : Nat → Int} {z t L : Nat} {σ0 τ0 : Sto} {x : Int32} {σ τ : Sto} (h : LnO T z t L σ0 τ0 x σ τ) : x = 0 ∨ x = 1 := by
  rcases h with h | h
  · exact Or.inr h.1
  · exact Or.inl h.1
theorem c_30 {σ : Sto} {i : Nat} (hi : i < 4) (j : Nat) : F_X6_readLine_30 (j + 1) σ (zI i) = if wB σ (i + 8) = 0 then F_X6_readLine_30 j σ (zI ((i + 1 : Nat) : Int)) else ((F_X6_readRule σ (zI i)).bind fun x4 => if x4.1 = 0 ∨ x4.1 = 1 then (some (x4.1, x4.2)) else none) := by
  rw [F_X6_readLine_30, if_neg (show ¬ (4 : Int32) ≤ zI i from by rw [zl4]; exact zleF (by omega)), c_wr σ hi, Option.bind_some, c_isW σ (by omega), Option.bind_some, zI_s1]
theorem j_line {T : Nat → Int} {z t L n nb : Nat} {σ0 τ0 σ τ : Sto} (h : Sy T z t L σ0 τ0 σ τ n nb n nb) (d : Dt σ τ t n nb) (hn : n ≤ 4 ∧ nb ≤ 4) : ∃ x σ' τ', F_X6_readLine σ = some (x, σ') ∧ F_X12_readLine τ = some τ' ∧ LnO T z t L σ0 τ0 x σ' τ' := by
  have h7 := Sy_7 h
  have w : ∀ k, k < 12 → F_X12_isWord τ k = some (wB σ k) := fun k hk => m_isW h.2.1 h7 hk
  obtain ⟨f, hf⟩ := FU5
  have rl : ∀ r, r < 4 → ∃ x σ' τ', ((F_X6_readRule σ (zI (r : Nat))).bind fun x4 => if x4.1 = 0 ∨ x4.1 = 1 then (some (x4.1, x4.2)) else none) = some (x, σ') ∧ ((F_X12_readRule τ (zI (r : Nat))).bind fun x8 => some x8) = some τ' ∧ LnO T z t L σ0 τ0 x σ' τ' := by
    intro r hr
    obtain ⟨x, σ', τ', a1, a2, a3⟩ := j_rule h d hn.1 hr
    have o : LnO T z t L σ0 τ0 x σ' τ' := by
      rcases a3 with ⟨b1, b2, b3⟩ | b
      · exact Or.inl ⟨b1, n, nb, hn, b2, b3⟩
      · exact Or.inr b
    rw [a1, a2, Option.bind_some, Option.bind_some, if_pos (LnO_w o)]
    exact ⟨x, σ', τ', rfl, rfl, o⟩
  unfold F_X6_readLine F_X12_readLine
  rw [c_isW σ (show 0 < 12 by omega), w 0 (by omega), Option.bind_some, Option.bind_some]
  rcases wB_01 σ 0 with b0 | b0
  · rw [b0, if_pos (show (0 : Int32) = 0 from rfl), if_pos (show (0 : Int32) = 0 from rfl), c_isW σ (show 7 < 12 by omega), w 7 (by omega), Option.bind_some, Option.bind_some]
    rcases wB_01 σ 7 with b7 | b7
    · rw [b7, if_pos (show (0 : Int32) = 0 from rfl), if_pos (show (0 : Int32) = 0 from rfl), w 8 (by omega), Option.bind_some, hf]
      have k0 : F_X6_readLine_30 (f + 1 + 1 + 1 + 1 + 1) σ 0 = _ := c_30 (i := 0) (σ := σ) (by omega) (f + 1 + 1 + 1 + 1)
      rw [k0]
      rcases wB_01 σ 8 with b8 | b8
      · rw [b8, if_pos (show (0 : Int32) = 0 from rfl), if_pos (show (0 : Int32) = 0 from rfl), w 9 (by omega), Option.bind_some, c_30 (i := 0 + 1) (σ := σ) (by omega) (f + 1 + 1 + 1)]
        rcases wB_01 σ 9 with b9 | b9
        · rw [b9, if_pos (show (0 : Int32) = 0 from rfl), if_pos (show (0 : Int32) = 0 from rfl), w 10 (by omega), Option.bind_some, c_30 (i := 0 + 1 + 1) (σ := σ) (by omega) (f + 1 + 1)]
          rcases wB_01 σ 10 with b10 | b10
          · rw [b10, if_pos (show (0 : Int32) = 0 from rfl), if_pos (show (0 : Int32) = 0 from rfl), w 11 (by omega), Option.bind_some, c_30 (i := 0 + 1 + 1 + 1) (σ := σ) (by omega) (f + 1)]
            rcases wB_01 σ 11 with b11 | b11
            · rw [b11, if_pos (show (0 : Int32) = 0 from rfl), if_pos (show (0 : Int32) = 0 from rfl), F_X6_readLine_30, if_pos (show (4 : Int32) ≤ zI ((0 + 1 + 1 + 1 + 1 : Nat) : Int) from by decide), c_wrap, m_flaw h7, Option.bind_some]
              exact ⟨0, fal σ 1, flw τ 1, rfl, rfl, Or.inr ⟨rfl, j_fail h (Or.inl rfl)⟩⟩
            · rw [b11, if_neg (show ¬ (1 : Int32) = 0 by decide), if_neg (show ¬ (1 : Int32) = 0 by decide)]
              exact rl 3 (by omega)
          · rw [b10, if_neg (show ¬ (1 : Int32) = 0 by decide), if_neg (show ¬ (1 : Int32) = 0 by decide)]
            exact rl 2 (by omega)
        · rw [b9, if_neg (show ¬ (1 : Int32) = 0 by decide), if_neg (show ¬ (1 : Int32) = 0 by decide)]
          exact rl 1 (by omega)
      · rw [b8, if_neg (show ¬ (1 : Int32) = 0 by decide), if_neg (show ¬ (1 : Int32) = 0 by decide)]
        exact rl 0 (by omega)
    · obtain ⟨x, σ', τ', a1, a2, a3⟩ := j_buyer h d hn
      have o : LnO T z t L σ0 τ0 x σ' τ' := a3
      rw [b7, if_neg (show ¬ (1 : Int32) = 0 by decide), if_neg (show ¬ (1 : Int32) = 0 by decide), a1, a2, Option.bind_some, Option.bind_some, if_pos (LnO_w o)]
      exact ⟨x, σ', τ', rfl, rfl, o⟩
  · obtain ⟨x, σ', τ', a1, a2, a3⟩ := j_service h d hn
    have o : LnO T z t L σ0 τ0 x σ' τ' := a3
    rw [b0, if_neg (show ¬ (1 : Int32) = 0 by decide), if_neg (show ¬ (1 : Int32) = 0 by decide), a1, a2, Option.bind_some, Option.bind_some, if_pos (LnO_w o)]
    exact ⟨x, σ', τ', rfl, rfl, o⟩
/-- how a text ends -/
def TxO (t : Nat) (σ0 τ0 : Sto) (y : Int32) (σ : Sto) (R : Option (Int32 × Sto)) : Prop := (y = 1 ∧ ∃ (τ : Sto) (m mb : Nat), R = F_X12_text_180 FU τ 0 ∧ (1 ≤ m ∧ m ≤ 4 ∧ mb ≤ 4) ∧ (σ.2.2 2 10 = some t ∧ σ.1 t 0 = zI m ∧ σ.1 t 1 = zI mb ∧ τ.1 0 23 = zI m ∧ τ.1 0 29 = zI mb) ∧ σ.1 2 8 = σ0.1 2 8 ∧ τ.1 0 7 = 0 ∧ FC σ0 σ t ∧ FM τ0 τ ∧ Dt σ τ t m mb) ∨ (y = 0 ∧ ∃ τ, R = some (-1, si (si τ 0 1 4) 0 2 (τ.1 0 8)) ∧ Bad t σ0 τ0 σ τ)
theorem z_156 {τ : Sto} (h : Fz τ) : F_X12_text_156 τ = some (-1, si (si τ 0 1 4) 0 2 (τ.1 0 8)) := by
  unfold F_X12_text_156
  rw [if_neg h.2, sw, sw, si_rd, if_neg (by omega)]
theorem z_97 {τ : Sto} (h : Fz τ) (j : Nat) : F_X12_text_97 (j + 1) τ = some (-1, si (si τ 0 1 4) 0 2 (τ.1 0 8)) := by
  rw [F_X12_text_97, z_isS h, Option.bind_some, if_pos rfl, if_neg h.1]
  unfold F_X12_text_137
  rw [if_neg h.1, z_156 h]
theorem c_55_0 (σ : Sto) (j : Nat) (i : Int32) : F_X6_readText_55 (j + 1) σ 0 i = some (0, σ) := by
  rw [F_X6_readText_55, if_pos (show (0 : Int32) = 0 from rfl)]
  unfold F_X6_readText_92
  rw [if_pos (show (0 : Int32) = 0 from rfl)]
  by_cases q : (500 : Int32) ≤ i
  · rw [if_pos q]
  · rw [if_neg q]
