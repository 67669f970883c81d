/-! READING: FROM THE TEXT'S BEGINNING -/
theorem c_cl33 {t : Nat} (TC : tC t) : ∀ (e i j : Nat) (σ : Sto), i + e = 4 → e < j → ∃ σ', F_X9_clear_33 j σ t (zI i) = some σ' ∧ (∀ a k, a ≠ t + 4 → σ'.1 a k = σ.1 a k) ∧ (∀ r, i ≤ r → r < 4 → σ'.1 (t + 4) r = if r = 2 then 10 else 0) ∧ (∀ r, r < i → σ'.1 (t + 4) r = σ.1 (t + 4) r) ∧ σ'.2 = σ.2 := by
  intro e
  induction e with
  | zero =>
    intro i j σ k1 k2
    obtain ⟨j, rfl⟩ : ∃ x, j = x + 1 := ⟨j - 1, by omega⟩
    rw [F_X9_clear_33, if_pos (show (4 : Int32) ≤ zI i from by rw [zl4]; exact zleT (by omega))]
    exact ⟨σ, rfl, fun _ _ _ => rfl, fun r r1 r2 => by omega, fun _ _ => rfl, rfl⟩
  | succ e ih =>
    intro i j σ k1 k2
    obtain ⟨j, rfl⟩ : ∃ x, j = x + 1 := ⟨j - 1, by omega⟩
    rw [F_X9_clear_33, if_neg (show ¬ (4 : Int32) ≤ zI i from by rw [zl4]; exact zleF (by omega)), if_pos TC.1]
    have go : ∀ x : Int32, (x = if i = 2 then 10 else 0) → ∃ σ', F_X9_clear_33 j (si σ (t + 4) i x) t (zI ((i + 1 : Nat) : Int)) = some σ' ∧ (∀ a k, a ≠ t + 4 → σ'.1 a k = σ.1 a k) ∧ (∀ r, i ≤ r → r < 4 → σ'.1 (t + 4) r = if r = 2 then 10 else 0) ∧ (∀ r, r < i → σ'.1 (t + 4) r = σ.1 (t + 4) r) ∧ σ'.2 = σ.2 := by
      intro x hx
      obtain ⟨σ', a1, a2, a3, a4, a5⟩ := ih (i + 1) j (si σ (t + 4) i x) (by omega) (by omega)
      refine ⟨σ', a1, fun a k q => ?_, fun r r1 r2 => ?_, fun r r1 => ?_, a5⟩
      · rw [a2 a k q, si_rd, if_neg (by omega)]
      · by_cases e : r = i
        · rw [e, a4 i (by omega), si_rd, if_pos ⟨rfl, rfl⟩]; exact hx
        · exact a3 r (by omega) r2
      · rw [a4 r (by omega), si_rd, if_neg (by omega)]
    simp (disch := omega) only [zI_ib, zI_ix, Int.toNat_natCast]
    rw [if_pos (show (0 : Int) ≤ (i : Int) ∧ (i : Int) < ((4 : Nat) : Int) by omega), sw, sw, zI_s1]
    by_cases q : i = 2
    · rw [if_pos (show zI i = (2 : Int32) from by rw [q]; decide)]
      exact go 10 (by rw [if_pos q])
    · rw [if_neg (show ¬ zI i = (2 : Int32) from by rw [zl2, zI_eq (by omega) (by omega) (by omega) (by omega)]; omega)]
      rw [if_pos (show (0 : Int) ≤ (i : Int) ∧ (i : Int) < ((4 : Nat) : Int) by omega)]
      exact go 0 (by rw [if_neg q])
theorem c_cl12 {t : Nat} (TC : tC t) : ∀ (e i j : Nat) (σ : Sto), i + e = 24 → e < j → ∃ σ', F_X9_clear_12 j σ t (zI i) = some σ' ∧ (∀ a k, a ≠ t + 2 → a ≠ t + 4 → σ'.1 a k = σ.1 a k) ∧ (∀ k, i ≤ k → k < 24 → σ'.1 (t + 2) k = 0) ∧ (∀ k, k < i → σ'.1 (t + 2) k = σ.1 (t + 2) k) ∧ (∀ r, r < 4 → σ'.1 (t + 4) r = if r = 2 then 10 else 0) ∧ σ'.2 = σ.2 := by
  intro e
  induction e with
  | zero =>
    intro i j σ k1 k2
    obtain ⟨j, rfl⟩ : ∃ x, j = x + 1 := ⟨j - 1, by omega⟩
    rw [F_X9_clear_12, if_pos (show (24 : Int32) ≤ zI i from by rw [show (24 : Int32) = zI 24 from by decide]; exact zleT (by omega))]
    obtain ⟨σ', a1, a2, a3, a4, a5⟩ := c_cl33 TC 4 0 FU σ (by omega) (FU_lt (by omega))
    exact ⟨σ', a1, fun a k _ q => a2 a k q, fun k r1 r2 => by omega, fun k _ => a2 _ k (by omega), fun r hr => a3 r (by omega) hr, a5⟩
  | succ e ih =>
    intro i j σ k1 k2
    obtain ⟨j, rfl⟩ : ∃ x, j = x + 1 := ⟨j - 1, by omega⟩
    rw [F_X9_clear_12, if_neg (show ¬ (24 : Int32) ≤ zI i from by rw [show (24 : Int32) = zI 24 from by decide]; exact zleF (by omega)), if_pos TC.1]
    simp (disch := omega) only [zI_ib, zI_ix, Int.toNat_natCast]
    rw [if_pos (show (0 : Int) ≤ (i : Int) ∧ (i : Int) < ((24 : Nat) : Int) by omega), sw, zI_s1]
    obtain ⟨σ', a1, a2, a3, a4, a5, a6⟩ := ih (i + 1) j (si σ (t + 2) i 0) (by omega) (by omega)
    refine ⟨σ', a1, fun a k q1 q2 => ?_, fun k r1 r2 => ?_, fun k r1 => ?_, a5, a6⟩
    · rw [a2 a k q1 q2, si_rd, if_neg (by omega)]
    · by_cases e : k = i
      · rw [e, a4 i (by omega), si_rd, if_pos ⟨rfl, rfl⟩]
      · exact a3 k (by omega) r2
    · rw [a4 k (by omega), si_rd, if_neg (by omega)]
theorem c_clear {t : Nat} (TC : tC t) (σ : Sto) : ∃ σ', F_X9_clear σ t = some σ' ∧ (∀ a k, ¬ (t ≤ a ∧ a ≤ t + 4) → σ'.1 a k = σ.1 a k) ∧ σ'.1 t 0 = 0 ∧ σ'.1 t 1 = 0 ∧ (∀ k, k < 24 → σ'.1 (t + 2) k = 0) ∧ (∀ r, r < 4 → σ'.1 (t + 4) r = if r = 2 then 10 else 0) ∧ σ'.2 = σ.2 := by
  unfold F_X9_clear
  rw [if_pos TC.1, sw, sw]
  obtain ⟨σ', a1, a2, a3, a4, a5, a6⟩ := c_cl12 TC 24 0 FU (si (si σ t 0 0) t 1 0) (by omega) (FU_lt (by omega))
  refine ⟨σ', a1, fun a k q => ?_, ?_, ?_, fun k hk => a3 k (by omega) hk, a5, a6⟩
  · rw [a2 a k (by omega) (by omega), si_rd, if_neg (by omega), si_rd, if_neg (by omega)]
  · rw [a2 t 0 (by omega) (by omega), si_rd, if_neg (by omega), si_rd, if_pos ⟨rfl, rfl⟩]
  · rw [a2 t 1 (by omega) (by omega), si_rd, if_pos ⟨rfl, rfl⟩]
theorem m_t60 : ∀ (e i j : Nat) (τ : Sto), i + e = 534 → e < j → ∃ τ', F_X12_text_60 j τ (zI i) = ((F_X12_goOn (si τ' 3 30 10)).bind fun x1 => ((F_X12_readLine x1).bind fun x2 => F_X12_text_97 FU x2 )) ∧ (∀ a k, a ≠ 3 → τ'.1 a k = τ.1 a k) ∧ (∀ k, i ≤ k → k < 534 → τ'.1 3 k = 0) ∧ (∀ k, k < i → τ'.1 3 k = τ.1 3 k) ∧ τ'.2 = τ.2 := by
  intro e
  induction e with
  | zero =>
    intro i j τ k1 k2
    obtain ⟨j, rfl⟩ : ∃ x, j = x + 1 := ⟨j - 1, by omega⟩
    rw [F_X12_text_60, if_pos (show (534 : Int32) ≤ zI i from by rw [show (534 : Int32) = zI 534 from by decide]; exact zleT (by omega)), sw, show ix 30 = 30 from by decide]
    exact ⟨τ, rfl, fun _ _ _ => rfl, fun k r1 r2 => by omega, fun _ _ => rfl, rfl⟩
  | succ e ih =>
    intro i j τ k1 k2
    obtain ⟨j, rfl⟩ : ∃ x, j = x + 1 := ⟨j - 1, by omega⟩
    rw [F_X12_text_60, if_neg (show ¬ (534 : Int32) ≤ zI i from by rw [show (534 : Int32) = zI 534 from by decide]; exact zleF (by omega))]
    simp (disch := omega) only [zI_ib, zI_ix, Int.toNat_natCast]
    rw [if_pos (show (0 : Int) ≤ (i : Int) ∧ (i : Int) < ((534 : Nat) : Int) by omega), sw, zI_s1]
    obtain ⟨τ', a1, a2, a3, a4, a5⟩ := ih (i + 1) j (si τ 3 i 0) (by omega) (by omega)
    refine ⟨τ', a1, fun a k q => ?_, fun k r1 r2 => ?_, fun k r1 => ?_, a5⟩
    · rw [a2 a k q, si_rd, if_neg (by omega)]
    · by_cases e : k = i
      · rw [e, a4 i (by omega), si_rd, if_pos ⟨rfl, rfl⟩]
      · exact a3 k (by omega) r2
    · rw [a4 k (by omega), si_rd, if_neg (by omega)]
/-- from a fresh reader to the text's end -/
theorem j_first {T : Nat → Int} {z t : Nat} {σ0 τ0 : Sto} (ht : t = 102 ∨ t = 110) (h : Ps T z σ0 τ0 0) (rf : σ0.2.2 2 10 = some t) (c1 : σ0.1 t 0 = 0) (c2 : σ0.1 t 1 = 0) (c3 : τ0.1 0 23 = 0) (c4 : τ0.1 0 29 = 0) (c5 : σ0.1 2 7 = 0) (c6 : τ0.1 0 30 = 0) (v : ∀ k, k < 24 → σ0.1 (t + 2) k = 0) (r : ∀ r, r < 4 → σ0.1 (t + 4) r = if r = 2 then 10 else 0) (m : ∀ k, k < 534 → τ0.1 3 k = if k = 30 then 10 else 0) : ∃ y σ', ((F_X6_advance σ0).bind fun x3 => ((F_X6_readLine x3).bind fun x4 => F_X6_readText_55 FU x4.2 x4.1 0)) = some (y, σ') ∧ TxO t σ0 τ0 y σ' ((F_X12_goOn τ0).bind fun x1 => ((F_X12_readLine x1).bind fun x2 => F_X12_text_97 FU x2 )) := by
  have z5 := h.1.2.1
  obtain ⟨σ1, τ1, p, a1, a2, a3, a4, a5, a6, a7, a8⟩ := j_adv h
  have s1 : Sy T z t 0 σ0 τ0 σ1 τ1 0 0 0 0 := by
    refine ⟨⟨p, a3, by omega, fun hh => by have := a5 hh; omega, a7.1 _ _ (by omega)⟩, a6, ⟨by rw [a7.2.2]; exact rf, ht⟩, ⟨?_, ?_, ?_, ?_⟩, FC_rd a7, FM_rd a8⟩
    · rw [a7.1 _ _ (by omega)]; exact c1
    · rw [a7.1 _ _ (by omega)]; exact c2
    · rw [a8.1 _ _ (by omega)]; exact c3
    · rw [a8.1 _ _ (by omega)]; exact c4
  have d0 : Dt σ0 τ0 t 0 0 := by
    refine ⟨⟨fun i hi => by omega, fun i hi => by omega⟩, ⟨fun s hs => by omega, fun s _ hs => ⟨v _ (by omega), v _ (by omega)⟩⟩, ⟨fun k hk => ?_, ?_, ?_⟩, fun b hb => by omega, ⟨0, by omega, c5, c6⟩⟩
    · rw [r k hk, m (28 + k) (by omega)]
      by_cases e : k = 2
      · rw [if_pos e, if_pos (by omega), e]
        exact ⟨10, by decide, by decide, by decide, by decide⟩
      · rw [if_neg e, if_neg (by omega)]
        exact ⟨0, by omega, (mxR_bd hk).1, rfl, rfl⟩
    · rw [m 32 (by omega)]; rfl
    · rw [m 33 (by omega)]; rfl
  obtain ⟨x, σ2, τ2, b1, b2, b3⟩ := j_line s1 (Dt_rd ht d0 a7 a8) (by omega)
  obtain ⟨y, σ', r1, r2⟩ := j_loop (z + 1) 0 FU FU x σ2 τ2 (by omega) (FU_lt (by omega)) (FU_lt (by omega)) b3 (by omega)
  rw [a1, Option.bind_some, b1, Option.bind_some, a2, Option.bind_some, b2, Option.bind_some]
  exact ⟨y, σ', r1, r2⟩
