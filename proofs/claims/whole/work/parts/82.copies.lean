/-! A TEXT IS TAKEN: THE CLASS, THE REFERENCE -/
def fgt (x : Sto) : Sto := si (si (si (si (si (si (si (si (si (si (si x 10 2 0) 118 0 0) 126 0 0) 76 0 0) 78 0 0) 80 0 0) 82 0 0) 75 6 (-1)) 84 7 0) 84 9 0) 84 6 (-1)
theorem c_bt32 (x : Sto) : F_X11_beginText_32 FU (si x 10 2 0) 0 = some (fgt x) := by
  obtain ⟨f, hf⟩ := FU5
  rw [hf, F_X11_beginText_32, if_neg (show ¬ (2 : Int32) ≤ 0 by decide), if_pos (show ib 0 2 by decide), sw, F_X11_beginText_32, if_neg (show ¬ (2 : Int32) ≤ 0 + 1 by decide), if_pos (show ib (0 + 1) 2 by decide), sw, F_X11_beginText_32, if_pos (show (2 : Int32) ≤ 0 + 1 + 1 by decide)]
  rfl
theorem c_bt {σ : Sto} {t n : Nat} {μ : Nat → Int} (ht : t = 102 ∨ t = 110) (rf : σ.2.2 0 11 = some t) (g : GdT μ n) (h4 : n ≤ 4) (h : TV (si σ 0 13 1) t μ n) : ∃ x, F_X11_beginText σ = some (fgt x) ∧ TR x t μ n ∧ (x.1 3 0 = 0 ∧ x.1 3 1 = 0) ∧ (∀ i, i < 4 → x.1 4 i = σ.1 (t + 2) i ∧ x.1 5 i = σ.1 (t + 2) i ∧ x.1 6 i = σ.1 (t + 2) (16 + i) ∧ x.1 7 i = σ.1 (t + 4) i) ∧ (∀ a k, ¬ (3 ≤ a ∧ a ≤ 7) → ¬ (t + 5 ≤ a ∧ a ≤ t + 7) → x.1 a k = (si σ 0 13 1).1 a k) ∧ x.2 = σ.2 := by
  have TC := tC_t ht
  obtain ⟨σ1, a1, a2, a3, a4⟩ := c_fill TC g h4 h
  obtain ⟨σ2, b1, b2, b3, b4, b5, b6⟩ := c_begin (σ := σ1) ht
  refine ⟨σ2, ?_, TR_fr a2 (fun a k i1 i2 => b5 a k (by omega)), ⟨b2, b3⟩, fun i hi => ?_, fun a k q1 q2 => ?_, b6.trans a4⟩
  · unfold F_X11_beginText
    rw [sw, show (si σ 0 13 1).2.2 0 11 = some t from rf, Option.bind_some, if_pos TC.1, a1, Option.bind_some, a4, show (si σ 0 13 1).2.2 0 11 = some t from rf, Option.bind_some, b1, Option.bind_some]
    unfold F_X5_clear
    rw [sw, Option.bind_some]
    exact c_bt32 σ2
  · obtain ⟨c1, c2, c3, c4⟩ := b4 i hi
    rw [c1, c2, c3, c4, a3 _ _ (by omega), a3 _ _ (by omega), a3 _ _ (by omega)]
    have es : ∀ a k, ¬ (a = 0 ∧ k = 13) → (si σ 0 13 1).1 a k = σ.1 a k := fun a k q => by rw [si_rd, if_neg q]
    exact ⟨es _ _ (by omega), es _ _ (by omega), es _ _ (by omega), es _ _ (by omega)⟩
  · rw [b5 a k q1]; exact a3 a k q2
theorem m_180 : ∀ (e i j : Nat) (τ : Sto), i + e = 534 → e < j → ∃ τ', F_X12_text_180 j τ (zI i) = F_X12_text_207 FU τ' 0 ∧ (∀ a k, a ≠ 2 → τ'.1 a k = τ.1 a k) ∧ (∀ k, i ≤ k → k < 534 → τ'.1 2 k = τ.1 3 k) ∧ (∀ k, k < i → τ'.1 2 k = τ.1 2 k) ∧ τ'.2 = τ.2 := by
  intro e
  induction e with
  | zero =>
    intro i j τ k1 k2
    obtain ⟨j, rfl⟩ : ∃ x, j = x + 1 := ⟨j - 1, by omega⟩
    rw [F_X12_text_180, if_pos (show (534 : Int32) ≤ zI i from by rw [show (534 : Int32) = zI 534 from by decide]; exact zleT (by omega))]
    exact ⟨τ, rfl, fun _ _ _ => rfl, fun k r1 r2 => by omega, fun _ _ => rfl, rfl⟩
  | succ e ih =>
    intro i j τ k1 k2
    obtain ⟨j, rfl⟩ : ∃ x, j = x + 1 := ⟨j - 1, by omega⟩
    rw [F_X12_text_180, if_neg (show ¬ (534 : Int32) ≤ zI i from by rw [show (534 : Int32) = zI 534 from by decide]; exact zleF (by omega))]
    simp (disch := omega) only [zI_ib, zI_ix, Int.toNat_natCast]
    rw [if_pos (show (0 : Int) ≤ (i : Int) ∧ (i : Int) < ((534 : Nat) : Int) by omega), sw, zI_s1]
    obtain ⟨τ', a1, a2, a3, a4, a5⟩ := ih (i + 1) j (si τ 2 i (τ.1 3 i)) (by omega) (by omega)
    refine ⟨τ', a1, fun a k q => ?_, fun k r1 r2 => ?_, fun k r1 => ?_, a5⟩
    · rw [a2 a k q, si_rd, if_neg (by omega)]
    · by_cases e : k = i
      · rw [e, a4 i (by omega), si_rd, if_pos ⟨rfl, rfl⟩]
      · rw [a3 k (by omega) r2, si_rd, if_neg (by omega)]
    · rw [a4 k (by omega), si_rd, if_neg (by omega)]
theorem m_207 : ∀ (e i j : Nat) (τ : Sto), i + e = 4 → e < j → ∃ τ', F_X12_text_207 j τ (zI i) = F_X12_text_248 FU (si (si τ' 0 22 (τ'.1 0 23)) 0 28 (τ'.1 0 29)) 0 ∧ τ'.1 = τ.1 ∧ (∀ k, i ≤ k → k < 4 → τ'.2.1 7 k = τ.2.1 8 k) ∧ (∀ k, k < i → τ'.2.1 7 k = τ.2.1 7 k) ∧ (∀ a k, a ≠ 7 → τ'.2.1 a k = τ.2.1 a k) ∧ τ'.2.2 = τ.2.2 := by
  intro e
  induction e with
  | zero =>
    intro i j τ k1 k2
    obtain ⟨j, rfl⟩ : ∃ x, j = x + 1 := ⟨j - 1, by omega⟩
    rw [F_X12_text_207, if_pos (show (4 : Int32) ≤ zI i from by rw [zl4]; exact zleT (by omega)), sw, sw, show (si τ 0 22 (τ.1 0 23)).1 0 29 = τ.1 0 29 from by rw [si_rd, if_neg (by omega)]]
    exact ⟨τ, rfl, rfl, fun k r1 r2 => by omega, fun _ _ => rfl, fun _ _ _ => rfl, rfl⟩
  | succ e ih =>
    intro i j τ k1 k2
    obtain ⟨j, rfl⟩ : ∃ x, j = x + 1 := ⟨j - 1, by omega⟩
    rw [F_X12_text_207, if_neg (show ¬ (4 : Int32) ≤ zI i from by rw [zl4]; exact zleF (by omega))]
    simp (disch := omega) only [zI_ib, zI_ix, Int.toNat_natCast]
    rw [if_pos (show (0 : Int) ≤ (i : Int) ∧ (i : Int) < ((8 : Nat) : Int) by omega), if_pos (show (0 : Int) ≤ (i : Int) ∧ (i : Int) < ((4 : Nat) : Int) by omega), sw, zI_s1]
    obtain ⟨τ', a1, a2, a3, a4, a5, a6⟩ := ih (i + 1) j (sj τ 7 i (τ.2.1 8 i)) (by omega) (by omega)
    refine ⟨τ', a1, a2, fun k r1 r2 => ?_, fun k r1 => ?_, fun a k q => ?_, a6⟩
    · by_cases e : k = i
      · rw [e, a4 i (by omega), sj_rd, if_pos ⟨rfl, rfl⟩]
      · rw [a3 k (by omega) r2, sj_rd, if_neg (by omega)]
    · rw [a4 k (by omega), sj_rd, if_neg (by omega)]
    · rw [a5 a k q, sj_rd, if_neg (by omega)]
def fin248 (τ : Sto) : Sto := si (si (si (si (si (si τ 0 24 0) 0 25 1) 9 0 0) 9 1 0) 0 1 0) 0 2 (-1)
theorem m_248 : ∀ (e i j : Nat) (τ : Sto), i + e = 16 → e < j → ∃ τ', F_X12_text_248 j τ (zI i) = some (τ.1 0 22, fin248 τ') ∧ (∀ a k, a ≠ 10 → τ'.1 a k = τ.1 a k) ∧ (∀ k, i ≤ k → k < 16 → τ'.1 10 k = τ.1 11 k) ∧ (∀ k, k < i → τ'.1 10 k = τ.1 10 k) ∧ τ'.2 = τ.2 := by
  intro e
  induction e with
  | zero =>
    intro i j τ k1 k2
    obtain ⟨j, rfl⟩ : ∃ x, j = x + 1 := ⟨j - 1, by omega⟩
    rw [F_X12_text_248, if_pos (show (16 : Int32) ≤ zI i from by rw [show (16 : Int32) = zI 16 from by decide]; exact zleT (by omega)), sw, sw, sw, sw, show ix 0 = 0 from by decide, show ix 1 = 1 from by decide]
    unfold F_X12_tells
    rw [sw, sw, Option.bind_some]
    refine ⟨τ, ?_, fun _ _ _ => rfl, fun k r1 r2 => by omega, fun _ _ => rfl, rfl⟩
    simp (disch := omega) only [si_rd, if_neg]
    rfl
  | succ e ih =>
    intro i j τ k1 k2
    obtain ⟨j, rfl⟩ : ∃ x, j = x + 1 := ⟨j - 1, by omega⟩
    rw [F_X12_text_248, if_neg (show ¬ (16 : Int32) ≤ zI i from by rw [show (16 : Int32) = zI 16 from by decide]; exact zleF (by omega))]
    simp (disch := omega) only [zI_ib, zI_ix, Int.toNat_natCast]
    rw [if_pos (show (0 : Int) ≤ (i : Int) ∧ (i : Int) < ((16 : Nat) : Int) by omega), sw, zI_s1]
    obtain ⟨τ', a1, a2, a3, a4, a5⟩ := ih (i + 1) j (si τ 10 i (τ.1 11 i)) (by omega) (by omega)
    refine ⟨τ', ?_, fun a k q => ?_, fun k r1 r2 => ?_, fun k r1 => ?_, a5⟩
    · rw [a1, si_rd, if_neg (by omega)]
    · rw [a2 a k q, si_rd, if_neg (by omega)]
    · by_cases e : k = i
      · rw [e, a4 i (by omega), si_rd, if_pos ⟨rfl, rfl⟩]
      · rw [a3 k (by omega) r2, si_rd, if_neg (by omega)]
    · rw [a4 k (by omega), si_rd, if_neg (by omega)]
theorem m_take (τ : Sto) : ∃ τ', F_X12_text_180 FU τ 0 = some (τ.1 0 23, fin248 τ') ∧ (∀ k, k < 534 → τ'.1 2 k = τ.1 3 k) ∧ (∀ k, k < 4 → τ'.2.1 7 k = τ.2.1 8 k) ∧ (τ'.1 0 22 = τ.1 0 23 ∧ τ'.1 0 28 = τ.1 0 29) ∧ (∀ k, k < 16 → τ'.1 10 k = τ.1 11 k) ∧ (∀ a k, a ≠ 2 → a ≠ 10 → ¬ (a = 0 ∧ (k = 22 ∨ k = 28)) → τ'.1 a k = τ.1 a k) := by
  obtain ⟨τ1, a1, a2, a3, a4, a5⟩ := m_180 534 0 FU τ (by omega) (FU_lt (by omega))
  obtain ⟨τ2, b1, b2, b3, b4, b5, b6⟩ := m_207 4 0 FU τ1 (by omega) (FU_lt (by omega))
  obtain ⟨τ3, c1, c2, c3, c4, c5⟩ := m_248 16 0 FU (si (si τ2 0 22 (τ2.1 0 23)) 0 28 (τ2.1 0 29)) (by omega) (FU_lt (by omega))
  have e23 : τ2.1 0 23 = τ.1 0 23 := by rw [b2]; exact a2 0 23 (by omega)
  have e29 : τ2.1 0 29 = τ.1 0 29 := by rw [b2]; exact a2 0 29 (by omega)
  refine ⟨τ3, ?_, fun k hk => ?_, fun k hk => ?_, ⟨?_, ?_⟩, fun k hk => ?_, fun a k q1 q2 q3 => ?_⟩
  · have c1' : F_X12_text_248 FU (si (si τ2 0 22 (τ2.1 0 23)) 0 28 (τ2.1 0 29)) 0 = _ := c1
    have b1' : F_X12_text_207 FU τ1 0 = _ := b1
    have a1' : F_X12_text_180 FU τ 0 = _ := a1
    rw [a1', b1', c1', si_rd, if_neg (by omega), si_rd, if_pos ⟨rfl, rfl⟩, e23]
  · rw [c2 _ _ (by omega), si_rd, if_neg (by omega), si_rd, if_neg (by omega), b2]; exact a3 k (by omega) hk
  · rw [c5, show (si (si τ2 0 22 (τ2.1 0 23)) 0 28 (τ2.1 0 29)).2 = τ2.2 from rfl, b3 k (by omega) hk, a5]
  · rw [c2 _ _ (by omega), si_rd, if_neg (by omega), si_rd, if_pos ⟨rfl, rfl⟩]; exact e23
  · rw [c2 _ _ (by omega), si_rd, if_pos ⟨rfl, rfl⟩]; exact e29
  · rw [c3 k (by omega) hk, si_rd, if_neg (by omega), si_rd, if_neg (by omega), b2]; exact a2 _ _ (by omega)
  · rw [c2 a k q2, si_rd, if_neg (by omega), si_rd, if_neg (by omega), b2]; exact a2 a k q1
