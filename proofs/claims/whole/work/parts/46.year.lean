/-! YEAR -/
theorem YR_fr {σ τ : Sto} {y n : Nat} {μ : Nat → Int} (h : YR σ y μ n) (f : ∀ a k, y ≤ a → a ≤ y + 4 → τ.1 a k = σ.1 a k) : YR τ y μ n := by
  unfold YR at *
  simp (disch := omega) only [f]
  exact h
theorem TR_fr {σ τ : Sto} {t n : Nat} {μ : Nat → Int} (h : TR σ t μ n) (f : ∀ a k, t ≤ a → a ≤ t + 7 → τ.1 a k = σ.1 a k) : TR τ t μ n := by
  unfold TR TV at *
  simp (disch := omega) only [f]
  exact h
theorem MS_hi {σ : Sto} {μ : Nat → Int} {n k : Nat} {v : Int32} (h : MS σ μ n) (hk : 34 ≤ k) : MS (si σ 2 k v) μ n :=
  ⟨fun j hj => by rw [si_rd, if_neg (by omega)]; exact h.1 j hj, by rw [si_rd, if_neg (by omega)]; exact h.2⟩
theorem y_allP {σ : Sto} {y t n c : Nat} {μ : Nat → Int} (hy : yC y) (ht : tC t) (h : YR σ y μ n) (k : TR σ t μ n) (g : Gd μ n c) : F_X9_together σ t (t + 6) (y + 2) = some (zI (allP μ n)) := by
  rw [t_together ht.1 ht.2.2.1 hy.2.2.1 k.1.1 g.1.2.1 (y_fr h g) (t_pr k)]
  congr 2
  exact sz_cg (fun s hs => by rw [show (((μ (7 * s + 1)).toNat : Nat) : Int) = μ (7 * s + 1) by have := (g.2.2.1 s hs).2.1; omega])
theorem y_allG {σ : Sto} {y t n c : Nat} {μ : Nat → Int} (hy : yC y) (ht : tC t) (h : YR σ y μ n) (k : TR σ t μ n) (g : Gd μ n c) : F_X9_together σ t (t + 7) (y + 2) = some (zI (allG μ n)) := by
  rw [t_together ht.1 ht.2.2.2 hy.2.2.1 k.1.1 g.1.2.1 (y_fr h g) (t_go k)]
  rfl
def ln4 (μ : Nat → Int) (n j : Nat) : Int := if j = 0 then sp μ n else if j = 1 then al μ n else if j = 2 then allP μ n else allG μ n
theorem c_enter {σ : Sto} {t n c N : Nat} {μ : Nat → Int} (ht : tC t) (t4 : t = 102 ∨ t = 110) (h : YR σ 3 μ n) (k : TR σ t μ n) (g : Gd μ n c) (eN : σ.1 3 0 = zI N) (hN : N < 99) : ∃ τ, F_X0_enter σ 8 t 3 = some τ ∧ (∀ a k, a ≠ 9 → τ.1 a k = σ.1 a k) ∧ τ.2 = σ.2 ∧ ∀ k, τ.1 9 k = if 4 * N ≤ k ∧ k < 4 * N + 4 then zI (ln4 μ n (k - 4 * N)) else σ.1 9 k := by
  have fr : ∀ (τ : Sto), (∀ a k, a ≠ 9 → τ.1 a k = σ.1 a k) → YR τ 3 μ n ∧ TR τ t μ n := fun τ f => ⟨YR_fr h (fun a k q1 q2 => f a k (by omega)), TR_fr k (fun a k q1 q2 => f a k (by omega))⟩
  have f1 : ∀ a k, a ≠ 9 → (si σ 9 (4 * N) (zI (sp μ n))).1 a k = σ.1 a k := fun a k q => by rw [si_rd, if_neg (by omega)]
  have f2 : ∀ a k, a ≠ 9 → (si (si σ 9 (4 * N) (zI (sp μ n))) 9 (4 * N + 1) (zI (al μ n))).1 a k = σ.1 a k := fun a k q => by rw [si_rd, if_neg (by omega)]; exact f1 a k q
  have f3 : ∀ a k, a ≠ 9 → (si (si (si σ 9 (4 * N) (zI (sp μ n))) 9 (4 * N + 1) (zI (al μ n))) 9 (4 * N + 2) (zI (allP μ n))).1 a k = σ.1 a k := fun a k q => by rw [si_rd, if_neg (by omega)]; exact f2 a k q
  have b : ∀ j : Nat, j < 4 → ib (zI ((N : Int) * 4 + j)) 396 ∧ ix (zI ((N : Int) * 4 + j)) = 4 * N + j := fun j hj => ⟨by rw [zI_ib (by omega) (by omega)]; omega, by rw [zI_ix (by omega) (by omega)]; omega⟩
  have n0 : ¬ zI (N : Int) < 0 := by rw [zl0, zI_lt (by omega) (by omega) (by omega) (by omega)]; omega
  have n99 : zI (N : Int) < 99 := by rw [show (99 : Int32) = zI 99 from by decide, zI_lt (by omega) (by omega) (by omega) (by omega)]; omega
  have g0 : ib (zI (N : Int) * 4) 396 ∧ ix (zI (N : Int) * 4) = 4 * N := by
    rw [zl4, zI_mul]
    exact ⟨by rw [zI_ib (by omega) (by omega)]; omega, by rw [zI_ix (by omega) (by omega)]; omega⟩
  have g1 : ib (zI (N : Int) * 4 + 1) 396 ∧ ix (zI (N : Int) * 4 + 1) = 4 * N + 1 := by
    rw [zl4, zI_mul, zl1, zI_add]
    exact b 1 (by omega)
  have g2 : ib (zI (N : Int) * 4 + 2) 396 ∧ ix (zI (N : Int) * 4 + 2) = 4 * N + 2 := by
    rw [zl4, zI_mul, zl2, zI_add]
    exact b 2 (by omega)
  have g3 : ib (zI (N : Int) * 4 + 3) 396 ∧ ix (zI (N : Int) * 4 + 3) = 4 * N + 3 := by
    rw [zl4, zI_mul, zl3, zI_add]
    exact b 3 (by omega)
  refine ⟨si (si (si (si σ 9 (4 * N) (zI (sp μ n))) 9 (4 * N + 1) (zI (al μ n))) 9 (4 * N + 2) (zI (allP μ n))) 9 (4 * N + 3) (zI (allG μ n)), ?_, fun a k q => ?_, rfl, fun k => ?_⟩
  · unfold F_X0_enter
    rw [if_pos (show (shC 3).1 = 10 by decide), eN, if_neg n0, if_pos n99, if_pos (show (shC 8).1 = 0 by decide), y_spent yC_3 ht h k g, Option.bind_some, if_pos g0.1, g0.2, sw, y_allowed yC_3 ht (fr _ f1).1 (fr _ f1).2 g, Option.bind_some, if_pos g1.1, g1.2, sw, if_pos ht.1, y_allP yC_3 ht (fr _ f2).1 (fr _ f2).2 g, Option.bind_some, if_pos g2.1, g2.2, sw, y_allG yC_3 ht (fr _ f3).1 (fr _ f3).2 g, Option.bind_some, if_pos g3.1, g3.2, sw]
  · rw [si_rd, if_neg (by omega)]; exact f3 a k q
  · simp only [si_rd]
    by_cases q : 4 * N ≤ k ∧ k < 4 * N + 4
    · rw [if_pos q]
      unfold ln4
      rcases (show k = 4 * N ∨ k = 4 * N + 1 ∨ k = 4 * N + 2 ∨ k = 4 * N + 3 by omega) with rfl | rfl | rfl | rfl
      · simp
      · simp
      · simp
      · simp
    · rw [if_neg q, if_neg (by omega), if_neg (by omega), if_neg (by omega), if_neg (by omega)]
