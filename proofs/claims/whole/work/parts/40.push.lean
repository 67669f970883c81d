/-! PUSHING THE YEAR ON THE PAST -/
theorem y_copy {σ : Sto} {a0 a1 : Nat} (h0 : (shC a0).1 = 10) (h1 : (shC a1).1 = 10) (hd : a1 + 4 < a0 ∨ a0 + 4 < a1) : ∃ τ, F_X10_copy σ a0 a1 = some τ ∧ (∀ a k, a < a0 ∨ a0 + 4 < a → τ.1 a k = σ.1 a k) ∧ τ.2 = σ.2 ∧ τ.1 a0 0 = σ.1 a1 0 ∧ τ.1 a0 1 = σ.1 a1 1 ∧ ∀ j, 1 ≤ j → j ≤ 4 → ∀ k, k < 4 → τ.1 (a0 + j) k = σ.1 (a1 + j) k := by
  unfold F_X10_copy
  rw [if_pos h1, if_pos h0]
  simp only [sw]
  refine ⟨_, rfl, fun a k ha => ?_, rfl, ?_, ?_, fun j j1 j2 k hk => ?_⟩
  · simp (disch := omega) only [sI_rd, si_rd, if_neg]
  · simp (disch := omega) only [sI_rd, si_rd, if_neg]
    simp
  · simp (disch := omega) only [sI_rd, si_rd, if_neg]
    simp
  · have e0 : ix 0 = 0 := by decide
    have e4 : ix 4 = 4 := by decide
    rcases (show j = 1 ∨ j = 2 ∨ j = 3 ∨ j = 4 by omega) with rfl | rfl | rfl | rfl <;>
      simp (disch := omega) only [sI_rd, si_rd, if_neg, if_pos, va_cpy, e0, e4, if_true, Nat.zero_add, Nat.sub_zero]
theorem m_rem57 {σ : Sto} {ac : Nat} (hac : ac < 10) (h24 : σ.1 0 24 = zI ac) : ∀ (d j k : Nat) (τ : Sto), j + d = 534 → d < k → (∀ a i, a ≠ 5 → τ.1 a i = σ.1 a i) → τ.2 = σ.2 → (∀ i, τ.1 5 i = if 534 * ac ≤ i ∧ i < 534 * ac + j then σ.1 2 (i - 534 * ac) else σ.1 5 i) → ∃ υ, F_X12_remembers_57 k τ (zI j) = some υ ∧ (∀ a i, ¬ (a = 0 ∧ i = 24) → a ≠ 5 → υ.1 a i = σ.1 a i) ∧ υ.2 = σ.2 ∧ υ.1 0 24 = zI (ac + 1 : Nat) ∧ ∀ i, υ.1 5 i = if 534 * ac ≤ i ∧ i < 534 * ac + 534 then σ.1 2 (i - 534 * ac) else σ.1 5 i := by
  intro d
  induction d with
  | zero =>
    intro j k τ hj hk h1 h2 h3
    obtain ⟨k, rfl⟩ : ∃ j, k = j + 1 := ⟨k - 1, by omega⟩
    obtain rfl : j = 534 := by omega
    refine ⟨si τ 0 24 (zI (ac + 1 : Nat)), ?_, fun a i q1 q2 => ?_, h2, ?_, fun i => ?_⟩
    · rw [F_X12_remembers_57, if_pos (by decide), h1 0 24 (by omega), h24, zl1, zI_add]
      rfl
    · rw [si_rd, if_neg q1]
      exact h1 a i q2
    · rw [si_rd, if_pos ⟨rfl, rfl⟩]
    · rw [si_rd, if_neg (by omega)]
      exact h3 i
  | succ d ih =>
    intro j k τ hj hk h1 h2 h3
    obtain ⟨k, rfl⟩ : ∃ j, k = j + 1 := ⟨k - 1, by omega⟩
    obtain ⟨υ, e, r⟩ := ih (j + 1) k (si τ 5 (534 * ac + j) (σ.1 2 j)) (by omega) (by omega) (fun a i q => by rw [si_rd, if_neg (by omega)]; exact h1 a i q) h2 (fun i => by
      rw [si_rd]
      by_cases q : i = 534 * ac + j
      · rw [if_pos ⟨rfl, q⟩, if_pos (by omega), q, show 534 * ac + j - 534 * ac = j by omega]
      · rw [if_neg (by omega), h3 i]
        by_cases q2 : 534 * ac ≤ i ∧ i < 534 * ac + j
        · rw [if_pos q2, if_pos (by omega)]
        · rw [if_neg q2, if_neg (by omega)])
    refine ⟨υ, ?_, r⟩
    rw [F_X12_remembers_57, if_neg (show ¬ 534 ≤ zI (j : Int) from by rw [show (534 : Int32) = zI 534 from by decide, zI_le (by omega) (by omega) (by omega) (by omega)]; omega), h1 0 24 (by omega), h24, show (534 : Int32) = zI 534 from by decide, zI_mul, zI_add, if_pos (show ib (zI (j : Int)) 534 from by rw [zI_ib (by omega) (by omega)]; omega), if_pos (show ib (zI ((ac : Int) * 534 + j)) 5340 from by rw [zI_ib (by omega) (by omega)]; omega), zI_ix (by omega) (by omega), zI_ix (by omega) (by omega), sw, h1 2 _ (by omega), Int.toNat_natCast, show ((ac : Int) * 534 + j).toNat = 534 * ac + j by omega, zl1, zI_add]
    exact e
theorem m_rem21 {σ : Sto} (h24 : σ.1 0 24 = zI 9) : ∀ (d j k : Nat) (τ : Sto), j + d = 4806 → d < k → (∀ a i, a ≠ 5 → τ.1 a i = σ.1 a i) → τ.2 = σ.2 → (∀ i, τ.1 5 i = if i < j then σ.1 5 (i + 534) else σ.1 5 i) → ∃ υ, F_X12_remembers_21 k τ (zI j) = F_X12_remembers_57 FU υ 0 ∧ (∀ a i, a ≠ 5 → υ.1 a i = σ.1 a i) ∧ υ.2 = σ.2 ∧ ∀ i, υ.1 5 i = if i < 4806 then σ.1 5 (i + 534) else σ.1 5 i := by
  intro d
  induction d with
  | zero =>
    intro j k τ hj hk h1 h2 h3
    obtain ⟨k, rfl⟩ : ∃ j, k = j + 1 := ⟨k - 1, by omega⟩
    obtain rfl : j = 4806 := by omega
    refine ⟨τ, ?_, h1, h2, h3⟩
    rw [F_X12_remembers_21, h1 0 24 (by omega), h24, if_pos (by decide)]
  | succ d ih =>
    intro j k τ hj hk h1 h2 h3
    obtain ⟨k, rfl⟩ : ∃ j, k = j + 1 := ⟨k - 1, by omega⟩
    obtain ⟨υ, e, r⟩ := ih (j + 1) k (si τ 5 j (σ.1 5 (j + 534))) (by omega) (by omega) (fun a i q => by rw [si_rd, if_neg (by omega)]; exact h1 a i q) h2 (fun i => by
      rw [si_rd]
      by_cases q : i = j
      · rw [if_pos ⟨rfl, q⟩, if_pos (by omega), q]
      · rw [if_neg (by omega), h3 i]
        by_cases q2 : i < j
        · rw [if_pos q2, if_pos (by omega)]
        · rw [if_neg q2, if_neg (by omega)])
    refine ⟨υ, ?_, r⟩
    rw [F_X12_remembers_21, h1 0 24 (by omega), h24, show (534 : Int32) = zI 534 from by decide, zI_mul, zI_add, if_neg (show ¬ zI (9 * 534) ≤ zI (j : Int) from by rw [zI_le (by omega) (by omega) (by omega) (by omega)]; omega), if_pos (show ib (zI ((j : Int) + 534)) 5340 from by rw [zI_ib (by omega) (by omega)]; omega), if_pos (show ib (zI (j : Int)) 5340 from by rw [zI_ib (by omega) (by omega)]; omega), zI_ix (by omega) (by omega), zI_ix (by omega) (by omega), sw, Int.toNat_natCast, show ((j : Int) + 534).toNat = j + 534 by omega, h3, if_neg (by omega), zl1, zI_add]
    exact e
/-- what remembering leaves: the rows of the past, one more -/
theorem m_rem {σ : Sto} {ac : Nat} (hac : ac ≤ 10) (h24 : σ.1 0 24 = zI ac) : ∃ υ, F_X12_remembers σ = some υ ∧ (∀ a i, ¬ (a = 0 ∧ i = 24) → a ≠ 5 → υ.1 a i = σ.1 a i) ∧ υ.2 = σ.2 ∧ υ.1 0 24 = zI ((min (ac + 1) 10 : Nat) : Int) ∧ ∀ k, k < 534 → (∀ i, i + 1 < min (ac + 1) 10 → υ.1 5 (534 * i + k) = σ.1 5 (534 * (if ac = 10 then i + 1 else i) + k)) ∧ υ.1 5 (534 * (min (ac + 1) 10 - 1) + k) = σ.1 2 k := by
  unfold F_X12_remembers
  by_cases q : ac = 10
  · subst q
    have e10 : σ.1 0 24 = 10 := by rw [h24]; decide
    rw [if_pos e10, sw, e10, show (10 - 1 : Int32) = zI 9 from by decide]
    obtain ⟨υ, e, r1, r2, r3⟩ := m_rem21 (σ := si σ 0 24 (zI 9)) (by rw [si_rd, if_pos ⟨rfl, rfl⟩]) 4806 0 FU _ (by omega) (FU_lt (by omega)) (fun _ _ _ => rfl) rfl (fun i => by rw [if_neg (by omega)])
    obtain ⟨ω, f, s1, s2, s3, s4⟩ := m_rem57 (σ := υ) (ac := 9) (by omega) (by rw [r1 0 24 (by omega), si_rd, if_pos ⟨rfl, rfl⟩]; rfl) 534 0 FU υ (by omega) (FU_lt (by omega)) (fun _ _ _ => rfl) rfl (fun i => by rw [if_neg (by omega)])
    refine ⟨ω, ?_, fun a i q1 q2 => ?_, ?_, ?_, fun k hk => ⟨fun i hi => ?_, ?_⟩⟩
    · show F_X12_remembers_21 FU (si σ 0 24 (zI 9)) (zI (0 : Nat)) = _
      rw [e]
      exact f
    · rw [s1 a i q1 q2, r1 a i q2, si_rd, if_neg q1]
    · rw [s2, r2]; rfl
    · rw [s3]; rfl
    · rw [s4, if_neg (by omega), r3, if_pos (by omega), si_rd, if_neg (by omega), if_pos rfl, show 534 * i + k + 534 = 534 * (i + 1) + k by omega]
    · rw [s4, if_pos (by omega), r1 2 _ (by omega), si_rd, if_neg (by omega), show 534 * (min (10 + 1) 10 - 1) + k - 534 * 9 = k by omega]
  · have e10 : ¬ σ.1 0 24 = 10 := by rw [h24, zl10, zI_eq (by omega) (by omega) (by omega) (by omega)]; omega
    rw [if_neg e10]
    obtain ⟨ω, f, s1, s2, s3, s4⟩ := m_rem57 (σ := σ) (ac := ac) (by omega) h24 534 0 FU σ (by omega) (FU_lt (by omega)) (fun _ _ _ => rfl) rfl (fun i => by rw [if_neg (by omega)])
    have em : min (ac + 1) 10 = ac + 1 := by omega
    refine ⟨ω, f, s1, s2, ?_, fun k hk => ⟨fun i hi => ?_, ?_⟩⟩
    · rw [s3, em]
    · rw [s4, if_neg (by omega), if_neg q]
    · rw [em, s4, if_pos (by omega), show 534 * (ac + 1 - 1) + k - 534 * ac = k by omega]
theorem shC_ring {h : Nat} (hh : h < 10) : (shC (12 + 5 * h)).1 = 10 := by
  rcases (show h = 0 ∨ h = 1 ∨ h = 2 ∨ h = 3 ∨ h = 4 ∨ h = 5 ∨ h = 6 ∨ h = 7 ∨ h = 8 ∨ h = 9 by omega) with rfl | rfl | rfl | rfl | rfl | rfl | rfl | rfl | rfl | rfl <;> decide
theorem c_push {σ : Sto} {h ac : Nat} (hh : h < 10) (hac : ac ≤ 10) (e1 : σ.1 10 1 = zI h) (e2 : σ.1 10 2 = zI ac) : ∃ τ, F_X5_push σ 3 = some τ ∧ (∀ a k, ¬ (a = 10 ∧ (k = 1 ∨ k = 2)) → (a < 12 + 5 * h ∨ 12 + 5 * h + 4 < a) → τ.1 a k = σ.1 a k) ∧ τ.2 = σ.2 ∧ τ.1 10 1 = zI (((h + 1) % 10 : Nat) : Int) ∧ τ.1 10 2 = zI ((min (ac + 1) 10 : Nat) : Int) ∧ τ.1 (12 + 5 * h) 0 = σ.1 3 0 ∧ τ.1 (12 + 5 * h) 1 = σ.1 3 1 ∧ ∀ j, 1 ≤ j → j ≤ 4 → ∀ k, k < 4 → τ.1 (12 + 5 * h + j) k = σ.1 (3 + j) k := by
  obtain ⟨υ, c1, c2, c3, c4, c5, c6⟩ := y_copy (σ := σ) (a0 := 12 + 5 * h) (a1 := 3) (shC_ring hh) (by decide) (by omega)
  have d1 : υ.1 10 1 = zI h := by rw [c2 10 1 (by omega)]; exact e1
  have d2 : υ.1 10 2 = zI ac := by rw [c2 10 2 (by omega)]; exact e2
  have m1 : (zI (h : Int) + 1) - (zI (h : Int) + 1) / 10 * 10 = zI (((h + 1) % 10 : Nat) : Int) := by
    have e10 : (10 : Int32) = zI ((10 : Nat) : Int) := by decide
    rw [zl1, zI_add, e10]
    exact zI_mod (x := h + 1) (y := 10) (by omega) (by omega)
  have m2 : (if 10 < zI (ac : Int) + 1 then (10 : Int32) else zI (ac : Int) + 1) = zI ((min (ac + 1) 10 : Nat) : Int) := by
    rw [zl1, zI_add]
    by_cases q : ac = 10
    · subst q
      decide
    · rw [if_neg (show ¬ 10 < zI ((ac : Int) + 1) from by rw [zl10, zI_lt (by omega) (by omega) (by omega) (by omega)]; omega), show min (ac + 1) 10 = ac + 1 by omega]
      rfl
  refine ⟨si (si υ 10 1 (zI (((h + 1) % 10 : Nat) : Int))) 10 2 (zI ((min (ac + 1) 10 : Nat) : Int)), ?_, fun a k q1 q2 => ?_, c3, ?_, ?_, ?_, ?_, fun j j1 j2 k hk => ?_⟩
  · unfold F_X5_push
    rw [e1, if_pos (show ib (zI (h : Int)) 10 from by rw [zI_ib (by omega) (by omega)]; omega), zI_ix (by omega) (by omega), Int.toNat_natCast, c1, Option.bind_some, sw, sw, d1, m1, show (si υ 10 1 (zI (((h + 1) % 10 : Nat) : Int))).1 10 2 = zI ac from by rw [si_rd, if_neg (by omega)]; exact d2, m2]
  · rw [si_rd, if_neg (by omega), si_rd, if_neg (by omega)]
    exact c2 a k q2
  · rw [si_rd, if_neg (by omega), si_rd, if_pos ⟨rfl, rfl⟩]
  · rw [si_rd, if_pos ⟨rfl, rfl⟩]
  · rw [si_rd, if_neg (by omega), si_rd, if_neg (by omega)]; exact c4
  · rw [si_rd, if_neg (by omega), si_rd, if_neg (by omega)]; exact c5
  · rw [si_rd, if_neg (by omega), si_rd, if_neg (by omega)]; exact c6 j j1 j2 k hk
def PFc (σ τ : Sto) : Prop := (∀ a k, a < 10 ∨ 61 < a → τ.1 a k = σ.1 a k) ∧ τ.2 = σ.2
def PFm (σ τ : Sto) : Prop := (∀ a k, ¬ (a = 0 ∧ k = 24) → a ≠ 5 → τ.1 a k = σ.1 a k) ∧ τ.2 = σ.2
theorem Ld_push {σC σM : Sto} {n nb t h ac : Nat} {μ : Nat → Int} {un : Nat → Nat → Int} (H : Ld σC σM n nb t h ac μ un) : ∃ τC τM h' ac', F_X5_push σC 3 = some τC ∧ F_X12_remembers σM = some τM ∧ Ld τC τM n nb t h' ac' μ un ∧ PFc σC τC ∧ PFm σM τM := by
  obtain ⟨h1, h2, h3, h4, h5, h6, h7, h8, ⟨p1, p2, p3, p4, p5, p6⟩, h10⟩ := H
  obtain ⟨τC, c1, c2, c3, c4, c5, c6, c7, c8⟩ := c_push p2 p1 p3 p4
  obtain ⟨τM, m1, m2, m3, m4, m5⟩ := m_rem p1 p5
  have hn4 := h2.1.1.2.1
  have t4 := h1.2.2.2
  have fC : PFc σC τC := ⟨fun a k q => c2 a k (by omega) (by omega), c3⟩
  refine ⟨τC, τM, (h + 1) % 10, min (ac + 1) 10, c1, m1, ⟨?_, h2, ?_, ⟨?_, ?_⟩, ?_, ?_, ?_, ?_, ⟨by omega, Nat.mod_lt _ (by omega), c4, c5, m4, ?_⟩, ?_⟩, fC, ⟨m2, m3⟩⟩
  · rw [fC.1 _ _ (by omega), m2 _ _ (by omega) (by omega), fC.2]; exact h1
  · unfold MS at *
    simp (disch := omega) only [m2]
    exact h3
  · unfold YR at *
    simp (disch := omega) only [fC.1]
    exact h4.1
  · rw [fC.1 _ _ (by omega)]; exact h4.2
  · unfold TR TV at *
    simp (disch := omega) only [fC.1]
    exact h5
  · unfold By at *
    simp (disch := omega) only [fC.1, m2]
    exact h6
  · unfold Nm at *
    rw [fC.2, m3]
    exact h7
  · unfold Bk at *
    simp (disch := omega) only [fC.1, m2]
    exact h8
  · refine ⟨fun i hi => ?_, fun i j hij hj => ?_⟩
    rotate_left
    · by_cases q : j + 1 < min (ac + 1) 10
      · rw [(m5 32 (by omega)).1 i (by omega), (m5 32 (by omega)).1 j q]
        exact p6.2 _ _ (by split <;> omega) (by split <;> omega)
      · have ej : j = min (ac + 1) 10 - 1 := by omega
        obtain ⟨P, ⟨k1, -, -, -, k4, -⟩, k5, -⟩ := p6.1 (if ac = 10 then i + 1 else i) (by split <;> omega)
        rw [(m5 32 (by omega)).1 i (by omega), ej, (m5 32 (by omega)).2, k1 32 (by omega), h3.1 32 (by omega), zI_le (by omega) (by omega) (by omega) (by omega)]
        exact k5
    by_cases q : i + 1 < min (ac + 1) 10
    · obtain ⟨P, ⟨k1, k2, k3, k4⟩, k5, k6⟩ := p6.1 (if ac = 10 then i + 1 else i) (by split <;> omega)
      have sl : ((h + 1) % 10 + 10 - min (ac + 1) 10 + i) % 10 = (h + 10 - ac + (if ac = 10 then i + 1 else i)) % 10 := by split <;> omega
      have ne : (h + 10 - ac + (if ac = 10 then i + 1 else i)) % 10 ≠ h := by split <;> omega
      rw [sl]
      generalize (h + 10 - ac + (if ac = 10 then i + 1 else i)) % 10 = S at *
      have rd : ∀ a k, 12 + 5 * S ≤ a → a ≤ 12 + 5 * S + 4 → τC.1 a k = σC.1 a k := fun a k q1 q2 => c2 a k (by omega) (by omega)
      refine ⟨P, ⟨fun k hk => ?_, ?_, ?_, k4⟩, k5, fun k hk => ?_⟩
      · rw [(m5 k (by omega)).1 i q]; exact k1 k hk
      · unfold YR at *
        simp (disch := omega) only [rd]
        exact k2
      · rw [rd _ _ (by omega) (by omega)]; exact k3
      · have b := k4.2.1
        rw [(m5 (34 + k) (by omega)).1 i q, m2 _ _ (by omega) (by omega)]
        exact k6 k hk
    · have ei : i = min (ac + 1) 10 - 1 := by omega
      have sl : ((h + 1) % 10 + 10 - min (ac + 1) 10 + i) % 10 = h := by omega
      rw [sl, ei]
      refine ⟨μ, ⟨fun k hk => ?_, ⟨fun s hs => ⟨?_, ?_, ?_⟩, fun r hr => ?_, ?_⟩, ?_, h2.1.2.2, h2.2, fun s hs => ⟨rfl, rfl, rfl, rfl⟩⟩, Int.le_refl _, fun k hk => ?_⟩
      · rw [(m5 k (by omega)).2]; exact h3.1 k hk
      · rw [c8 1 (by omega) (by omega) s (by omega)]; exact (h4.1.1 s hs).1
      · rw [c8 2 (by omega) (by omega) s (by omega)]; exact (h4.1.1 s hs).2.1
      · rw [c8 3 (by omega) (by omega) s (by omega)]; exact (h4.1.1 s hs).2.2
      · rw [c8 4 (by omega) (by omega) r (by omega)]; exact h4.1.2.1 r hr
      · rw [c7]; exact h4.1.2.2
      · rw [c6]; exact h4.2
      · rw [(m5 (34 + k) (by omega)).2, m2 _ _ (by omega) (by omega)]
  · intro i hi
    have := h10 i hi
    unfold Kp YR Bk at *
    simp (disch := omega) only [fC.1, m2]
    exact this
