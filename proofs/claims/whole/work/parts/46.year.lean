/-! YEAR -/
theorem YR_fr {σ τ : Sto} {y n : Nat} {μ : Nat → Int} (h : YR σ y μ n) (f : ∀ a k, y ≤ a → a ≤ y + 4 → τ.1 a k = σ.1 a k) : YR τ y μ n := by
  unfold YR at *
  simp (disch := omega) only [f]
  exact h
theorem TR_fr {σ τ : Sto} {t n : Nat} {μ : Nat → Int} (h : TR σ t μ n) (f : ∀ a k, t ≤ a → a ≤ t + 7 → τ.1 a k = σ.1 a k) : TR τ t μ n := by
  unfold TR TV at *
  simp (disch := omega) only [f]
  exact h
theorem MS_hi {σ : Sto} {μ : Nat → Int} {n k : Nat} {v : Int32} (h : MS σ μ n) (hk : 34 ≤ k) : MS (si σ 2 k v) μ n :=
  ⟨fun j hj => by rw [si_rd, if_neg (by omega)]; exact h.1 j hj, by rw [si_rd, if_neg (by omega)]; exact h.2⟩
theorem y_allP {σ : Sto} {y t n c : Nat} {μ : Nat → Int} (hy : yC y) (ht : tC t) (h : YR σ y μ n) (k : TR σ t μ n) (g : Gd μ n c) : F_X9_together σ t (t + 6) (y + 2) = some (zI (allP μ n)) := by
  rw [t_together ht.1 ht.2.2.1 hy.2.2.1 k.1.1 g.1.2.1 (y_fr h g) (t_pr k)]
  congr 2
  exact sz_cg (fun s hs => by rw [show (((μ (7 * s + 1)).toNat : Nat) : Int) = μ (7 * s + 1) by have := (g.2.2.1 s hs).2.1; omega])
theorem y_allG {σ : Sto} {y t n c : Nat} {μ : Nat → Int} (hy : yC y) (ht : tC t) (h : YR σ y μ n) (k : TR σ t μ n) (g : Gd μ n c) : F_X9_together σ t (t + 7) (y + 2) = some (zI (allG μ n)) := by
  rw [t_together ht.1 ht.2.2.2 hy.2.2.1 k.1.1 g.1.2.1 (y_fr h g) (t_go k)]
  rfl
def ln4 (μ : Nat → Int) (n j : Nat) : Int := if j = 0 then sp μ n else if j = 1 then al μ n else if j = 2 then allP μ n else allG μ n
theorem c_enter {σ : Sto} {t n c N : Nat} {μ : Nat → Int} (ht : tC t) (t4 : t = 102 ∨ t = 110) (h : YR σ 3 μ n) (k : TR σ t μ n) (g : Gd μ n c) (eN : σ.1 3 0 = zI N) (hN : N < 99) : ∃ τ, F_X0_enter σ 8 t 3 = some τ ∧ (∀ a k, a ≠ 9 → τ.1 a k = σ.1 a k) ∧ τ.2 = σ.2 ∧ ∀ k, τ.1 9 k = if 4 * N ≤ k ∧ k < 4 * N + 4 then zI (ln4 μ n (k - 4 * N)) else σ.1 9 k := by
  have fr : ∀ (τ : Sto), (∀ a k, a ≠ 9 → τ.1 a k = σ.1 a k) → YR τ 3 μ n ∧ TR τ t μ n := fun τ f => ⟨YR_fr h (fun a k q1 q2 => f a k (by omega)), TR_fr k (fun a k q1 q2 => f a k (by omega))⟩
  have f1 : ∀ a k, a ≠ 9 → (si σ 9 (4 * N) (zI (sp μ n))).1 a k = σ.1 a k := fun a k q => by rw [si_rd, if_neg (by omega)]
  have f2 : ∀ a k, a ≠ 9 → (si (si σ 9 (4 * N) (zI (sp μ n))) 9 (4 * N + 1) (zI (al μ n))).1 a k = σ.1 a k := fun a k q => by rw [si_rd, if_neg (by omega)]; exact f1 a k q
  have f3 : ∀ a k, a ≠ 9 → (si (si (si σ 9 (4 * N) (zI (sp μ n))) 9 (4 * N + 1) (zI (al μ n))) 9 (4 * N + 2) (zI (allP μ n))).1 a k = σ.1 a k := fun a k q => by rw [si_rd, if_neg (by omega)]; exact f2 a k q
  have b : ∀ j : Nat, j < 4 → ib (zI ((N : Int) * 4 + j)) 396 ∧ ix (zI ((N : Int) * 4 + j)) = 4 * N + j := fun j hj => ⟨by rw [zI_ib (by omega) (by omega)]; omega, by rw [zI_ix (by omega) (by omega)]; omega⟩
  have n0 : ¬ zI (N : Int) < 0 := by rw [zl0, zI_lt (by omega) (by omega) (by omega) (by omega)]; omega
  have n99 : zI (N : Int) < 99 := by rw [show (99 : Int32) = zI 99 from by decide, zI_lt (by omega) (by omega) (by omega) (by omega)]; omega
  have g0 : ib (zI (N : Int) * 4) 396 ∧ ix (zI (N : Int) * 4) = 4 * N := by
    rw [zl4, zI_mul]
    exact ⟨by rw [zI_ib (by omega) (by omega)]; omega, by rw [zI_ix (by omega) (by omega)]; omega⟩
  have g1 : ib (zI (N : Int) * 4 + 1) 396 ∧ ix (zI (N : Int) * 4 + 1) = 4 * N + 1 := by
    rw [zl4, zI_mul, zl1, zI_add]
    exact b 1 (by omega)
  have g2 : ib (zI (N : Int) * 4 + 2) 396 ∧ ix (zI (N : Int) * 4 + 2) = 4 * N + 2 := by
    rw [zl4, zI_mul, zl2, zI_add]
    exact b 2 (by omega)
  have g3 : ib (zI (N : Int) * 4 + 3) 396 ∧ ix (zI (N : Int) * 4 + 3) = 4 * N + 3 := by
    rw [zl4, zI_mul, zl3, zI_add]
    exact b 3 (by omega)
  refine ⟨si (si (si (si σ 9 (4 * N) (zI (sp μ n))) 9 (4 * N + 1) (zI (al μ n))) 9 (4 * N + 2) (zI (allP μ n))) 9 (4 * N + 3) (zI (allG μ n)), ?_, fun a k q => ?_, rfl, fun k => ?_⟩
  · unfold F_X0_enter
    rw [if_pos (show (shC 3).1 = 10 by decide), eN, if_neg n0, if_pos n99, if_pos (show (shC 8).1 = 0 by decide), y_spent yC_3 ht h k g, Option.bind_some, if_pos g0.1, g0.2, sw, y_allowed yC_3 ht (fr _ f1).1 (fr _ f1).2 g, Option.bind_some, if_pos g1.1, g1.2, sw, if_pos ht.1, y_allP yC_3 ht (fr _ f2).1 (fr _ f2).2 g, Option.bind_some, if_pos g2.1, g2.2, sw, y_allG yC_3 ht (fr _ f3).1 (fr _ f3).2 g, Option.bind_some, if_pos g3.1, g3.2, sw]
  · rw [si_rd, if_neg (by omega)]; exact f3 a k q
  · simp only [si_rd]
    by_cases q : 4 * N ≤ k ∧ k < 4 * N + 4
    · rw [if_pos q]
      unfold ln4
      rcases (show k = 4 * N ∨ k = 4 * N + 1 ∨ k = 4 * N + 2 ∨ k = 4 * N + 3 by omega) with rfl | rfl | rfl | rfl
      · simp
      · simp
      · simp
      · simp
    · rw [if_neg q, if_neg (by omega), if_neg (by omega), if_neg (by omega), if_neg (by omega)]
def ln5 (μ : Nat → Int) (n j : Nat) : Int := if j < 4 then ln4 μ n j else if sp μ n ≤ al μ n then 1 else 0
def yr1 (μ : Nat → Int) (n : Nat) : Nat → Int := fun k => if k = 32 then μ 32 + 1 else en μ n k
theorem m_allP1 {σ : Sto} {μ : Nat → Int} {n c : Nat} (h : MS σ μ n) (g : Gd μ n c) : F_X12_all σ 0 = some (zI (allP μ n)) := m_allP h g
theorem m_year {σ0 σ : Sto} {μ : Nat → Int} {n c N : Nat} (hr : F_X12_remembers σ0 = some σ) (h : MS σ μ n) (g : Gd μ n c) (eN : μ 32 = N) (hN : N < 99) : ∃ υ, F_X12_year_47 σ0 = some (zI (N + 1 : Nat), si (si υ 0 1 (zI 0)) 0 2 (-1)) ∧ MS υ (yr1 μ n) n ∧ (∀ a k, a ≠ 2 → υ.1 a k = σ.1 a k) ∧ υ.2 = σ.2 ∧ ∀ k, 34 ≤ k → υ.1 2 k = if 34 + 5 * N ≤ k ∧ k < 34 + 5 * N + 5 then zI (ln5 μ n (k - (34 + 5 * N))) else σ.1 2 k := by
  have e32 : σ.1 2 (ix 32) = zI N := by rw [show ix 32 = 32 from by decide, h.1 32 (by omega), eN]
  have b : ∀ j : Nat, j < 5 → ib (zI ((34 : Int) + 5 * N + j)) 534 ∧ ix (zI ((34 : Int) + 5 * N + j)) = 34 + 5 * N + j := fun j hj => ⟨by rw [zI_ib (by omega) (by omega)]; omega, by rw [zI_ix (by omega) (by omega)]; omega⟩
  have e0 : (34 : Int32) + 5 * zI (N : Int) = zI ((34 : Int) + 5 * N + (0 : Nat)) := by rw [zl34, zl5, zI_mul, zI_add]; rfl
  have ej : ∀ j : Nat, zI ((34 : Int) + 5 * N + (0 : Nat)) + zI (j : Int) = zI ((34 : Int) + 5 * N + j) := fun j => by rw [zI_add]; congr 1
  have h1 := MS_hi (k := 34 + 5 * N + 0) (v := zI (sp μ n)) h (by omega)
  have h2 := MS_hi (k := 34 + 5 * N + 1) (v := zI (al μ n)) h1 (by omega)
  have h3 := MS_hi (k := 34 + 5 * N + 2) (v := zI (allP μ n)) h2 (by omega)
  have h4 := MS_hi (k := 34 + 5 * N + 3) (v := zI (allG μ n)) h3 (by omega)
  have r1 : (1 : Int32) = zI ((1 : Nat) : Int) := by decide
  have r2 : (2 : Int32) = zI ((2 : Nat) : Int) := by decide
  have r3 : (3 : Int32) = zI ((3 : Nat) : Int) := by decide
  have r4 : (4 : Int32) = zI ((4 : Nat) : Int) := by decide
  generalize hS : si (si (si (si σ 2 (34 + 5 * N + 0) (zI (sp μ n))) 2 (34 + 5 * N + 1) (zI (al μ n))) 2 (34 + 5 * N + 2) (zI (allP μ n))) 2 (34 + 5 * N + 3) (zI (allG μ n)) = S at h4
  have kp := m_isKept h4 g
  have main : ∀ x : Int, x = (if sp μ n ≤ al μ n then 1 else 0) → ∃ υ, F_X12_year_131 S (zI ((34 : Int) + 5 * N + (4 : Nat))) (zI x) = some (zI (N + 1 : Nat), si (si υ 0 1 (zI 0)) 0 2 (-1)) ∧ MS υ (yr1 μ n) n ∧ (∀ a k, a ≠ 2 → υ.1 a k = σ.1 a k) ∧ υ.2 = σ.2 ∧ ∀ k, 34 ≤ k → υ.1 2 k = if 34 + 5 * N ≤ k ∧ k < 34 + 5 * N + 5 then zI (ln5 μ n (k - (34 + 5 * N))) else σ.1 2 k := by
    intro x hx
    have h5 := MS_hi (k := 34 + 5 * N + 4) (v := zI x) h4 (by omega)
    obtain ⟨w, w1, w2, w3, w4⟩ := m_ends h5 g
    have w32 : w.1 2 32 = zI N := by
      rw [w2.1 32 (by omega)]
      unfold en
      rw [if_neg (by omega), if_neg (by omega), eN]
    refine ⟨si w 2 32 (zI (N + 1 : Nat)), ?_, ⟨fun k hk => ?_, ?_⟩, fun a k q => ?_, ?_, fun k hk => ?_⟩
    · rw [F_X12_year_131, if_pos (b 4 (by omega)).1, (b 4 (by omega)).2, sw, w1, Option.bind_some, show ix 32 = 32 from by decide, sw, w32, zl1, zI_add, show (si w 2 32 (zI ((N : Int) + 1))).1 2 32 = zI ((N : Int) + 1) from by rw [si_rd, if_pos ⟨rfl, rfl⟩]]
      rfl
    · unfold yr1
      rw [si_rd]
      by_cases q : k = 32
      · rw [if_pos ⟨rfl, q⟩, if_pos q, eN]; rfl
      · rw [if_neg (by omega), if_neg q]; exact w2.1 k hk
    · rw [si_rd, if_neg (by omega)]; exact w2.2
    · rw [si_rd, if_neg (by omega), w3 a k (Or.inl q), si_rd, if_neg (by omega), ← hS]
      simp (disch := omega) only [si_rd, if_neg]
    · rw [show (si w 2 32 (zI (N + 1 : Nat))).2 = w.2 from rfl, w4, ← hS]; rfl
    · rw [si_rd, if_neg (by omega), w3 2 k (Or.inr hk), ← hS]
      simp only [si_rd]
      by_cases q : 34 + 5 * N ≤ k ∧ k < 34 + 5 * N + 5
      · rw [if_pos q]
        unfold ln5 ln4
        rcases (show k = 34 + 5 * N + 0 ∨ k = 34 + 5 * N + 1 ∨ k = 34 + 5 * N + 2 ∨ k = 34 + 5 * N + 3 ∨ k = 34 + 5 * N + 4 by omega) with rfl | rfl | rfl | rfl | rfl
        · simp
        · simp
        · simp
        · simp
        · simp [hx]
      · rw [if_neg q, if_neg (by omega), if_neg (by omega), if_neg (by omega), if_neg (by omega), if_neg (by omega)]
  unfold F_X12_year_47
  rw [hr, Option.bind_some, e32, e0, r1, r2, r3, r4, ej 1, ej 2, ej 3, ej 4, m_spent h g, Option.bind_some, if_pos (b 0 (by omega)).1, (b 0 (by omega)).2, sw, m_allowed h1 g, Option.bind_some, if_pos (b 1 (by omega)).1, (b 1 (by omega)).2, sw, m_allP h2 g, Option.bind_some, if_pos (b 2 (by omega)).1, (b 2 (by omega)).2, sw, ← r1, m_allG h3 g, Option.bind_some, if_pos (b 3 (by omega)).1, (b 3 (by omega)).2, sw, hS, kp, Option.bind_some]
  by_cases q : sp μ n ≤ al μ n
  · rw [if_pos q, if_neg (by decide)]
    exact main 1 (by rw [if_pos q])
  · rw [if_neg q, if_pos (by decide)]
    exact main 0 (by rw [if_neg q])
