/-! A TEXT'S TABLES, ITS FIRST YEAR -/
theorem TV_fr {σ τ : Sto} {t n : Nat} {μ : Nat → Int} (h : TV σ t μ n) (f : ∀ a k, (a = t ∨ a = t + 2) → τ.1 a k = σ.1 a k) : TV τ t μ n := by
  unfold TV at *
  simp (disch := omega) only [f]
  exact h
def ab (μ : Nat → Int) (s d : Nat) : Int := sz (21 - d) (fun j => bo μ s ((d : Int) + j))
theorem ab_s {μ : Nat → Int} {s d : Nat} (hd : d ≤ 20) : ab μ s d = ab μ s (d + 1) + bo μ s d := by
  unfold ab
  rw [show 21 - d = (20 - d) + 1 by omega, ← sz_head, show 21 - (d + 1) = 20 - d by omega]
  have e : sz (20 - d) (fun j => bo μ s ((d : Int) + ((j + 1 : Nat) : Int))) = sz (20 - d) (fun j => bo μ s (((d + 1 : Nat) : Int) + j)) := sz_cg (fun i _ => by congr 1; push_cast; omega)
  have e2 : (d : Int) + ((0 : Nat) : Int) = d := by omega
  rw [e, e2]
  omega
theorem go_ab {μ : Nat → Int} {s d : Nat} (hd : d ≤ 20) : go μ s d = ab μ s (d + 1) + pr μ s d := by
  unfold go ab
  have e : sz (20 - d) (fun j => bo μ s ((d : Int) + 1 + j)) = sz (21 - (d + 1)) (fun j => bo μ s (((d + 1 : Nat) : Int) + j)) := by
    rw [show 21 - (d + 1) = 20 - d by omega]
    exact sz_cg (fun i _ => by congr 1)
  rw [e]
  omega
theorem c_ft15 {t n s : Nat} {μ : Nat → Int} (TC : tC t) (g : GdT μ n) (h4 : n ≤ 4) (hs : s < n) (K : Sto → Nat → Int32 → Option Sto) : ∀ (d j : Nat) (σ : Sto), d ≤ 21 → d < j → TV σ t μ n → ∃ σ', F_X9_fillTables_15 K j σ t (zI s) (zI (ab μ s d)) (zI ((d : Int) - 1)) = K σ' t (zI ((s + 1 : Nat) : Int)) ∧ (∀ a k, ¬ ((t + 5 ≤ a ∧ a ≤ t + 7) ∧ 21 * s ≤ k ∧ k < 21 * s + d) → σ'.1 a k = σ.1 a k) ∧ σ'.2 = σ.2 ∧ ∀ p, p < d → σ'.1 (t + 5) (21 * s + p) = zI (bo μ s p) ∧ σ'.1 (t + 6) (21 * s + p) = zI (pr μ s p) ∧ σ'.1 (t + 7) (21 * s + p) = zI (go μ s p) := by
  intro d
  induction d with
  | zero =>
    intro j σ k1 k2 h
    obtain ⟨j, rfl⟩ : ∃ x, j = x + 1 := ⟨j - 1, by omega⟩
    rw [F_X9_fillTables_15, if_pos (show zI (((0 : Nat) : Int) - 1) < 0 from by decide), zI_s1]
    exact ⟨σ, rfl, fun _ _ _ => rfl, rfl, fun p hp => by omega⟩
  | succ d ih =>
    intro j σ k1 k2 h
    obtain ⟨j, rfl⟩ : ∃ x, j = x + 1 := ⟨j - 1, by omega⟩
    obtain ⟨g1, g2, g3, g4⟩ := g s hs
    have md := mul_bd g2.1 g2.2 (show 0 ≤ (d : Int) by omega) (show (d : Int) ≤ 20 by omega)
    have ev : (if (0 : Int32) < zI (μ (7 * s + 2)) - zI (μ (7 * s + 3)) * zI (d : Int) then zI (μ (7 * s + 2)) - zI (μ (7 * s + 3)) * zI (d : Int) else 0) = zI (bo μ s d) := by
      rw [zI_mul, zI_sub]
      unfold bo
      by_cases q : 0 < μ (7 * s + 2) - μ (7 * s + 3) * d
      · rw [if_pos (show (0 : Int32) < _ from by rw [zl0]; exact zltT (by omega)), show max 0 (μ (7 * s + 2) - μ (7 * s + 3) * d) = μ (7 * s + 2) - μ (7 * s + 3) * d by omega]
      · rw [if_neg (show ¬ (0 : Int32) < _ from by rw [zl0]; exact zltF (by omega)), show max 0 (μ (7 * s + 2) - μ (7 * s + 3) * d) = 0 by omega]
        rfl
    have eg : zI (bo μ s d) * (zI (d : Int) - zI (μ (7 * s + 4))) = zI (pr μ s d) := by rw [zI_sub, zI_mul]; rfl
    rw [F_X9_fillTables_15, show (((d + 1 : Nat) : Int) - 1) = (d : Int) by omega, if_neg (zlt0F (by omega)), if_pos TC.1, t_v1 TC.1 h h4 hs, Option.bind_some, t_v2 TC.1 h h4 hs, Option.bind_some, ev, sw, t_v3 TC.1 h h4 hs, Option.bind_some, eg, zI_add, zI_add, zl21, zI_mul, zI_add, show (zI (d : Int) + (-1) : Int32) = zI ((d : Int) - 1) from by rw [zlm1, zI_add]; rfl]
    simp (disch := omega) only [zI_ib, zI_ix]
    rw [if_pos (by omega), sw, sw, sw, show ((s : Int) * 21 + d).toNat = 21 * s + d by omega, ← ab_s (by omega), ← go_ab (by omega)]
    obtain ⟨σ', a1, a2, a3, a4⟩ := ih j (si (si (si σ (t + 5) (21 * s + d) (zI (bo μ s d))) (t + 6) (21 * s + d) (zI (pr μ s d))) (t + 7) (21 * s + d) (zI (go μ s d))) (by omega) (by omega) (TV_fr h (fun a k q => by simp (disch := omega) only [si_rd, if_neg]))
    refine ⟨σ', a1, fun a k q => ?_, a3, fun p hp => ?_⟩
    · rw [a2 a k (by omega)]
      simp (disch := omega) only [si_rd, if_neg]
    · by_cases e : p = d
      · rw [e, a2 _ _ (by omega), a2 _ _ (by omega), a2 _ _ (by omega)]
        refine ⟨?_, ?_, ?_⟩
        · rw [si_rd, if_neg (by omega), si_rd, if_neg (by omega), si_rd, if_pos ⟨rfl, rfl⟩]
        · rw [si_rd, if_neg (by omega), si_rd, if_pos ⟨rfl, rfl⟩]
        · rw [si_rd, if_pos ⟨rfl, rfl⟩]
      · exact a4 p (by omega)
theorem c_fill {σ : Sto} {t n : Nat} {μ : Nat → Int} (TC : tC t) (g : GdT μ n) (h4 : n ≤ 4) (h : TV σ t μ n) : ∃ σ', F_X9_fillTables σ t = some σ' ∧ TR σ' t μ n ∧ (∀ a k, ¬ (t + 5 ≤ a ∧ a ≤ t + 7) → σ'.1 a k = σ.1 a k) ∧ σ'.2 = σ.2 := by
  have loop : ∀ (e s j : Nat) (τ : Sto), s + e = n → e < j → (∀ a k, ¬ (t + 5 ≤ a ∧ a ≤ t + 7) → τ.1 a k = σ.1 a k) → τ.2 = σ.2 → (∀ u, u < s → ∀ p, p ≤ 20 → τ.1 (t + 5) (21 * u + p) = zI (bo μ u p) ∧ τ.1 (t + 6) (21 * u + p) = zI (pr μ u p) ∧ τ.1 (t + 7) (21 * u + p) = zI (go μ u p)) → ∃ σ', F_X9_fillTables_2 j τ t (zI s) = some σ' ∧ TR σ' t μ n ∧ (∀ a k, ¬ (t + 5 ≤ a ∧ a ≤ t + 7) → σ'.1 a k = σ.1 a k) ∧ σ'.2 = σ.2 := by
    intro e
    induction e with
    | zero =>
      intro s j τ k1 k2 f1 f2 f3
      obtain ⟨j, rfl⟩ : ∃ x, j = x + 1 := ⟨j - 1, by omega⟩
      have hv : TV τ t μ n := TV_fr h (fun a k q => f1 a k (by omega))
      rw [F_X9_fillTables_2, if_pos TC.1, hv.1, if_pos (zleT (by omega))]
      exact ⟨τ, rfl, ⟨hv, fun u hu p hp => f3 u (by omega) p hp⟩, f1, f2⟩
    | succ e ih =>
      intro s j τ k1 k2 f1 f2 f3
      obtain ⟨j, rfl⟩ : ∃ x, j = x + 1 := ⟨j - 1, by omega⟩
      have hv : TV τ t μ n := TV_fr h (fun a k q => f1 a k (by omega))
      obtain ⟨σ', a1, a2, a3, a4⟩ := c_ft15 (s := s) TC g h4 (by omega) (F_X9_fillTables_2 j) 21 FU τ (by omega) (FU_lt (by omega)) hv
      have a1' : F_X9_fillTables_15 (F_X9_fillTables_2 j) FU τ t (zI s) 0 20 = F_X9_fillTables_2 j σ' t (zI ((s + 1 : Nat) : Int)) := a1
      rw [F_X9_fillTables_2, if_pos TC.1, hv.1, if_neg (zleF (by omega)), a1']
      refine ih (s + 1) j σ' (by omega) (by omega) (fun a k q => ?_) (a3.trans f2) (fun u hu p hp => ?_)
      · rw [a2 a k (by omega)]; exact f1 a k q
      · by_cases e : u = s
        · rw [e]; exact a4 p (by omega)
        · rw [a2 _ _ (by omega), a2 _ _ (by omega), a2 _ _ (by omega)]
          exact f3 u (by omega) p hp
  exact loop n 0 FU σ (by omega) (FU_lt (by omega)) (fun _ _ _ => rfl) rfl (fun u hu => by omega)
theorem c_begin {σ : Sto} {t : Nat} (ht : t = 102 ∨ t = 110) : ∃ σ', F_X10_begin σ 3 t = some σ' ∧ σ'.1 3 0 = 0 ∧ σ'.1 3 1 = 0 ∧ (∀ i, i < 4 → σ'.1 4 i = σ.1 (t + 2) i ∧ σ'.1 5 i = σ.1 (t + 2) i ∧ σ'.1 6 i = σ.1 (t + 2) (16 + i) ∧ σ'.1 7 i = σ.1 (t + 4) i) ∧ (∀ a k, ¬ (3 ≤ a ∧ a ≤ 7) → σ'.1 a k = σ.1 a k) ∧ σ'.2 = σ.2 := by
  have TC := tC_t ht
  have loop : ∀ (e i j : Nat) (τ : Sto), i + e = 4 → e < j → (τ.1 3 0 = 0 ∧ τ.1 3 1 = 0) → (∀ u, u < i → τ.1 4 u = σ.1 (t + 2) u ∧ τ.1 5 u = σ.1 (t + 2) u ∧ τ.1 6 u = σ.1 (t + 2) (16 + u)) → (∀ a k, ¬ (3 ≤ a ∧ a ≤ 7) → τ.1 a k = σ.1 a k) → τ.2 = σ.2 → ∃ σ', F_X10_begin_12 j τ 3 t (zI i) = some σ' ∧ σ'.1 3 0 = 0 ∧ σ'.1 3 1 = 0 ∧ (∀ i, i < 4 → σ'.1 4 i = σ.1 (t + 2) i ∧ σ'.1 5 i = σ.1 (t + 2) i ∧ σ'.1 6 i = σ.1 (t + 2) (16 + i) ∧ σ'.1 7 i = σ.1 (t + 4) i) ∧ (∀ a k, ¬ (3 ≤ a ∧ a ≤ 7) → σ'.1 a k = σ.1 a k) ∧ σ'.2 = σ.2 := by
    intro e
    induction e with
    | zero =>
      intro i j τ k1 k2 f0 f1 f2 f3
      obtain ⟨j, rfl⟩ : ∃ x, j = x + 1 := ⟨j - 1, by omega⟩
      have e0 : ix 0 = 0 := by decide
      have e4 : ix 4 = 4 := by decide
      rw [F_X10_begin_12, if_pos (show (4 : Int32) ≤ zI i from by rw [zl4]; exact zleT (by omega)), if_pos TC.1, if_pos yC_3.1, sw]
      refine ⟨_, rfl, ?_, ?_, fun u hu => ⟨?_, ?_, ?_, ?_⟩, fun a k q => ?_, f3⟩
      · rw [sI_rd, if_neg (by omega)]; exact f0.1
      · rw [sI_rd, if_neg (by omega)]; exact f0.2
      · rw [sI_rd, if_neg (by omega)]; exact (f1 u (by omega)).1
      · rw [sI_rd, if_neg (by omega)]; exact (f1 u (by omega)).2.1
      · rw [sI_rd, if_neg (by omega)]; exact (f1 u (by omega)).2.2
      · rw [← f2 (t + 4) u (by omega)]
        simp (disch := omega) only [sI_rd, if_neg, if_pos, va_cpy, e0, e4, if_true, Nat.zero_add, Nat.sub_zero]
      · rw [sI_rd, if_neg (by omega)]; exact f2 a k q
    | succ e ih =>
      intro i j τ k1 k2 f0 f1 f2 f3
      obtain ⟨j, rfl⟩ : ∃ x, j = x + 1 := ⟨j - 1, by omega⟩
      have v0 : F_X9_valueOf τ t 0 (zI i) = some (σ.1 (t + 2) i) := by
        have := t_value (σ := τ) TC.1 (v := 0) (s := i) (by omega) (by omega)
        rw [f2 _ _ (by omega), show 4 * 0 + i = i by omega] at this
        exact this
      rw [F_X10_begin_12, if_neg (show ¬ (4 : Int32) ≤ zI i from by rw [zl4]; exact zleF (by omega)), if_pos yC_3.1, if_pos TC.1, v0, Option.bind_some]
      simp (disch := omega) only [zI_ib, zI_ix, Int.toNat_natCast]
      rw [if_pos (show (0 : Int) ≤ (i : Int) ∧ (i : Int) < ((4 : Nat) : Int) by omega), sw, sw, si_rd, if_pos ⟨rfl, rfl⟩]
      have v4 : ∀ τ' : Sto, (∀ k, τ'.1 (t + 2) k = τ.1 (t + 2) k) → F_X9_valueOf τ' t 4 (zI i) = some (σ.1 (t + 2) (16 + i)) := by
        intro τ' hh
        have := t_value (σ := τ') TC.1 (v := 4) (s := i) (by omega) (by omega)
        rw [hh, f2 _ _ (by omega), show 4 * 4 + i = 16 + i by omega] at this
        exact this
      rw [v4 _ (fun k => by rw [si_rd, if_neg (by omega), si_rd, if_neg (by omega)]), Option.bind_some, sw, zI_s1]
      refine ih (i + 1) j _ (by omega) (by omega) ⟨?_, ?_⟩ (fun u hu => ?_) (fun a k q => ?_) f3
      · simp (disch := omega) only [si_rd, if_neg]; exact f0.1
      · simp (disch := omega) only [si_rd, if_neg]; exact f0.2
      · by_cases e : u = i
        · rw [e]
          refine ⟨?_, ?_, ?_⟩
          · rw [si_rd, if_neg (by omega), si_rd, if_neg (by omega), si_rd, if_pos ⟨rfl, rfl⟩]
          · rw [si_rd, if_neg (by omega), si_rd, if_pos ⟨rfl, rfl⟩]
          · rw [si_rd, if_pos ⟨rfl, rfl⟩]
        · simp (disch := omega) only [si_rd, if_neg]
          exact f1 u (by omega)
      · simp (disch := omega) only [si_rd, if_neg]; exact f2 a k q
  unfold F_X10_begin
  rw [if_pos yC_3.1, sw, sw]
  exact loop 4 0 FU _ (by omega) (FU_lt (by omega)) ⟨by rw [si_rd, if_neg (by omega), si_rd, if_pos ⟨rfl, rfl⟩], by rw [si_rd, if_pos ⟨rfl, rfl⟩]⟩ (fun u hu => by omega) (fun a k q => by rw [si_rd, if_neg (by omega), si_rd, if_neg (by omega)]) rfl
