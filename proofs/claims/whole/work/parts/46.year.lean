/-! YEAR -/
theorem YR_fr {σ τ : Sto} {y n : Nat} {μ : Nat → Int} (h : YR σ y μ n) (f : ∀ a k, y ≤ a → a ≤ y + 4 → τ.1 a k = σ.1 a k) : YR τ y μ n := by
  unfold YR at *
  simp (disch := omega) only [f]
  exact h
theorem TR_fr {σ τ : Sto} {t n : Nat} {μ : Nat → Int} (h : TR σ t μ n) (f : ∀ a k, t ≤ a → a ≤ t + 7 → τ.1 a k = σ.1 a k) : TR τ t μ n := by
  unfold TR TV at *
  simp (disch := omega) only [f]
  exact h
theorem MS_hi {σ : Sto} {μ : Nat → Int} {n k : Nat} {v : Int32} (h : MS σ μ n) (hk : 34 ≤ k) : MS (si σ 2 k v) μ n :=
  ⟨fun j hj => by rw [si_rd, if_neg (by omega)]; exact h.1 j hj, by rw [si_rd, if_neg (by omega)]; exact h.2⟩
theorem y_allP {σ : Sto} {y t n c : Nat} {μ : Nat → Int} (hy : yC y) (ht : tC t) (h : YR σ y μ n) (k : TR σ t μ n) (g : Gd μ n c) : F_X9_together σ t (t + 6) (y + 2) = some (zI (allP μ n)) := by
  rw [t_together ht.1 ht.2.2.1 hy.2.2.1 k.1.1 g.1.2.1 (y_fr h g) (t_pr k)]
  congr 2
  exact sz_cg (fun s hs => by rw [show (((μ (7 * s + 1)).toNat : Nat) : Int) = μ (7 * s + 1) by have := (g.2.2.1 s hs).2.1; omega])
theorem y_allG {σ : Sto} {y t n c : Nat} {μ : Nat → Int} (hy : yC y) (ht : tC t) (h : YR σ y μ n) (k : TR σ t μ n) (g : Gd μ n c) : F_X9_together σ t (t + 7) (y + 2) = some (zI (allG μ n)) := by
  rw [t_together ht.1 ht.2.2.2 hy.2.2.1 k.1.1 g.1.2.1 (y_fr h g) (t_go k)]
  rfl
def ln4 (μ : Nat → Int) (n j : Nat) : Int := if j = 0 then sp μ n else if j = 1 then al μ n else if j = 2 then allP μ n else allG μ n
theorem c_enter {σ : Sto} {t n c N : Nat} {μ : Nat → Int} (ht : tC t) (t4 : t = 102 ∨ t = 110) (h : YR σ 3 μ n) (k : TR σ t μ n) (g : Gd μ n c) (eN : σ.1 3 0 = zI N) (hN : N < 99) : ∃ τ, F_X0_enter σ 8 t 3 = some τ ∧ (∀ a k, a ≠ 9 → τ.1 a k = σ.1 a k) ∧ τ.2 = σ.2 ∧ ∀ k, τ.1 9 k = if 4 * N ≤ k ∧ k < 4 * N + 4 then zI (ln4 μ n (k - 4 * N)) else σ.1 9 k := by
  have fr : ∀ (τ : Sto), (∀ a k, a ≠ 9 → τ.1 a k = σ.1 a k) → YR τ 3 μ n ∧ TR τ t μ n := fun τ f => ⟨YR_fr h (fun a k q1 q2 => f a k (by omega)), TR_fr k (fun a k q1 q2 => f a k (by omega))⟩
  have f1 : ∀ a k, a ≠ 9 → (si σ 9 (4 * N) (zI (sp μ n))).1 a k = σ.1 a k := fun a k q => by rw [si_rd, if_neg (by omega)]
  have f2 : ∀ a k, a ≠ 9 → (si (si σ 9 (4 * N) (zI (sp μ n))) 9 (4 * N + 1) (zI (al μ n))).1 a k = σ.1 a k := fun a k q => by rw [si_rd, if_neg (by omega)]; exact f1 a k q
  have f3 : ∀ a k, a ≠ 9 → (si (si (si σ 9 (4 * N) (zI (sp μ n))) 9 (4 * N + 1) (zI (al μ n))) 9 (4 * N + 2) (zI (allP μ n))).1 a k = σ.1 a k := fun a k q => by rw [si_rd, if_neg (by omega)]; exact f2 a k q
  have b : ∀ j : Nat, j < 4 → ib (zI ((N : Int) * 4 + j)) 396 ∧ ix (zI ((N : Int) * 4 + j)) = 4 * N + j := fun j hj => ⟨by rw [zI_ib (by omega) (by omega)]; omega, by rw [zI_ix (by omega) (by omega)]; omega⟩
  have n0 : ¬ zI (N : Int) < 0 := by rw [zl0, zI_lt (by omega) (by omega) (by omega) (by omega)]; omega
  have n99 : zI (N : Int) < 99 := by rw [show (99 : Int32) = zI 99 from by decide, zI_lt (by omega) (by omega) (by omega) (by omega)]; omega
  have g0 : ib (zI (N : Int) * 4) 396 ∧ ix (zI (N : Int) * 4) = 4 * N := by
    rw [zl4, zI_mul]
    exact ⟨by rw [zI_ib (by omega) (by omega)]; omega, by rw [zI_ix (by omega) (by omega)]; omega⟩
  have g1 : ib (zI (N : Int) * 4 + 1) 396 ∧ ix (zI (N : Int) * 4 + 1) = 4 * N + 1 := by
    rw [zl4, zI_mul, zl1, zI_add]
    exact b 1 (by omega)
  have g2 : ib (zI (N : Int) * 4 + 2) 396 ∧ ix (zI (N : Int) * 4 + 2) = 4 * N + 2 := by
    rw [zl4, zI_mul, zl2, zI_add]
    exact b 2 (by omega)
  have g3 : ib (zI (N : Int) * 4 + 3) 396 ∧ ix (zI (N : Int) * 4 + 3) = 4 * N + 3 := by
    rw [zl4, zI_mul, zl3, zI_add]
    exact b 3 (by omega)
  refine ⟨si (si (si (si σ 9 (4 * N) (zI (sp μ n))) 9 (4 * N + 1) (zI (al μ n))) 9 (4 * N + 2) (zI (allP μ n))) 9 (4 * N + 3) (zI (allG μ n)), ?_, fun a k q => ?_, rfl, fun k => ?_⟩
  · unfold F_X0_enter
    rw [if_pos (show (shC 3).1 = 10 by decide), eN, if_neg n0, if_pos n99, if_pos (show (shC 8).1 = 0 by decide), y_spent yC_3 ht h k g, Option.bind_some, if_pos g0.1, g0.2, sw, y_allowed yC_3 ht (fr _ f1).1 (fr _ f1).2 g, Option.bind_some, if_pos g1.1, g1.2, sw, if_pos ht.1, y_allP yC_3 ht (fr _ f2).1 (fr _ f2).2 g, Option.bind_some, if_pos g2.1, g2.2, sw, y_allG yC_3 ht (fr _ f3).1 (fr _ f3).2 g, Option.bind_some, if_pos g3.1, g3.2, sw]
  · rw [si_rd, if_neg (by omega)]; exact f3 a k q
  · simp only [si_rd]
    by_cases q : 4 * N ≤ k ∧ k < 4 * N + 4
    · rw [if_pos q]
      unfold ln4
      rcases (show k = 4 * N ∨ k = 4 * N + 1 ∨ k = 4 * N + 2 ∨ k = 4 * N + 3 by omega) with rfl | rfl | rfl | rfl
      · simp
      · simp
      · simp
      · simp
    · rw [if_neg q, if_neg (by omega), if_neg (by omega), if_neg (by omega), if_neg (by omega)]
def ln5 (μ : Nat → Int) (n j : Nat) : Int := if j < 4 then ln4 μ n j else if sp μ n ≤ al μ n then 1 else 0
def yr1 (μ : Nat → Int) (n : Nat) : Nat → Int := fun k => if k = 32 then μ 32 + 1 else en μ n k
theorem m_allP1 {σ : Sto} {μ : Nat → Int} {n c : Nat} (h : MS σ μ n) (g : Gd μ n c) : F_X12_all σ 0 = some (zI (allP μ n)) := m_allP h g
theorem m_year {σ0 σ : Sto} {μ : Nat → Int} {n c N : Nat} (hr : F_X12_remembers σ0 = some σ) (h : MS σ μ n) (g : Gd μ n c) (eN : μ 32 = N) (hN : N < 99) : ∃ υ, F_X12_year_47 σ0 = some (zI (N + 1 : Nat), si (si υ 0 1 (zI 0)) 0 2 (-1)) ∧ MS υ (yr1 μ n) n ∧ (∀ a k, a ≠ 2 → υ.1 a k = σ.1 a k) ∧ υ.2 = σ.2 ∧ ∀ k, 34 ≤ k → υ.1 2 k = if 34 + 5 * N ≤ k ∧ k < 34 + 5 * N + 5 then zI (ln5 μ n (k - (34 + 5 * N))) else σ.1 2 k := by
  have e32 : σ.1 2 (ix 32) = zI N := by rw [show ix 32 = 32 from by decide, h.1 32 (by omega), eN]
  have b : ∀ j : Nat, j < 5 → ib (zI ((34 : Int) + 5 * N + j)) 534 ∧ ix (zI ((34 : Int) + 5 * N + j)) = 34 + 5 * N + j := fun j hj => ⟨by rw [zI_ib (by omega) (by omega)]; omega, by rw [zI_ix (by omega) (by omega)]; omega⟩
  have e0 : (34 : Int32) + 5 * zI (N : Int) = zI ((34 : Int) + 5 * N + (0 : Nat)) := by rw [zl34, zl5, zI_mul, zI_add]; rfl
  have ej : ∀ j : Nat, zI ((34 : Int) + 5 * N + (0 : Nat)) + zI (j : Int) = zI ((34 : Int) + 5 * N + j) := fun j => by rw [zI_add]; congr 1
  have h1 := MS_hi (k := 34 + 5 * N + 0) (v := zI (sp μ n)) h (by omega)
  have h2 := MS_hi (k := 34 + 5 * N + 1) (v := zI (al μ n)) h1 (by omega)
  have h3 := MS_hi (k := 34 + 5 * N + 2) (v := zI (allP μ n)) h2 (by omega)
  have h4 := MS_hi (k := 34 + 5 * N + 3) (v := zI (allG μ n)) h3 (by omega)
  have r1 : (1 : Int32) = zI ((1 : Nat) : Int) := by decide
  have r2 : (2 : Int32) = zI ((2 : Nat) : Int) := by decide
  have r3 : (3 : Int32) = zI ((3 : Nat) : Int) := by decide
  have r4 : (4 : Int32) = zI ((4 : Nat) : Int) := by decide
  generalize hS : si (si (si (si σ 2 (34 + 5 * N + 0) (zI (sp μ n))) 2 (34 + 5 * N + 1) (zI (al μ n))) 2 (34 + 5 * N + 2) (zI (allP μ n))) 2 (34 + 5 * N + 3) (zI (allG μ n)) = S at h4
  have kp := m_isKept h4 g
  have main : ∀ x : Int, x = (if sp μ n ≤ al μ n then 1 else 0) → ∃ υ, F_X12_year_131 S (zI ((34 : Int) + 5 * N + (4 : Nat))) (zI x) = some (zI (N + 1 : Nat), si (si υ 0 1 (zI 0)) 0 2 (-1)) ∧ MS υ (yr1 μ n) n ∧ (∀ a k, a ≠ 2 → υ.1 a k = σ.1 a k) ∧ υ.2 = σ.2 ∧ ∀ k, 34 ≤ k → υ.1 2 k = if 34 + 5 * N ≤ k ∧ k < 34 + 5 * N + 5 then zI (ln5 μ n (k - (34 + 5 * N))) else σ.1 2 k := by
    intro x hx
    have h5 := MS_hi (k := 34 + 5 * N + 4) (v := zI x) h4 (by omega)
    obtain ⟨w, w1, w2, w3, w4⟩ := m_ends h5 g
    have w32 : w.1 2 32 = zI N := by
      rw [w2.1 32 (by omega)]
      unfold en
      rw [if_neg (by omega), if_neg (by omega), eN]
    refine ⟨si w 2 32 (zI (N + 1 : Nat)), ?_, ⟨fun k hk => ?_, ?_⟩, fun a k q => ?_, ?_, fun k hk => ?_⟩
    · rw [F_X12_year_131, if_pos (b 4 (by omega)).1, (b 4 (by omega)).2, sw, w1, Option.bind_some, show ix 32 = 32 from by decide, sw, w32, zl1, zI_add, show (si w 2 32 (zI ((N : Int) + 1))).1 2 32 = zI ((N : Int) + 1) from by rw [si_rd, if_pos ⟨rfl, rfl⟩]]
      rfl
    · unfold yr1
      rw [si_rd]
      by_cases q : k = 32
      · rw [if_pos ⟨rfl, q⟩, if_pos q, eN]; rfl
      · rw [if_neg (by omega), if_neg q]; exact w2.1 k hk
    · rw [si_rd, if_neg (by omega)]; exact w2.2
    · rw [si_rd, if_neg (by omega), w3 a k (Or.inl q), si_rd, if_neg (by omega), ← hS]
      simp (disch := omega) only [si_rd, if_neg]
    · rw [show (si w 2 32 (zI (N + 1 : Nat))).2 = w.2 from rfl, w4, ← hS]; rfl
    · rw [si_rd, if_neg (by omega), w3 2 k (Or.inr hk), ← hS]
      simp only [si_rd]
      by_cases q : 34 + 5 * N ≤ k ∧ k < 34 + 5 * N + 5
      · rw [if_pos q]
        unfold ln5 ln4
        rcases (show k = 34 + 5 * N + 0 ∨ k = 34 + 5 * N + 1 ∨ k = 34 + 5 * N + 2 ∨ k = 34 + 5 * N + 3 ∨ k = 34 + 5 * N + 4 by omega) with rfl | rfl | rfl | rfl | rfl
        · simp
        · simp
        · simp
        · simp
        · simp [hx]
      · rw [if_neg q, if_neg (by omega), if_neg (by omega), if_neg (by omega), if_neg (by omega), if_neg (by omega)]
  unfold F_X12_year_47
  rw [hr, Option.bind_some, e32, e0, r1, r2, r3, r4, ej 1, ej 2, ej 3, ej 4, m_spent h g, Option.bind_some, if_pos (b 0 (by omega)).1, (b 0 (by omega)).2, sw, m_allowed h1 g, Option.bind_some, if_pos (b 1 (by omega)).1, (b 1 (by omega)).2, sw, m_allP h2 g, Option.bind_some, if_pos (b 2 (by omega)).1, (b 2 (by omega)).2, sw, ← r1, m_allG h3 g, Option.bind_some, if_pos (b 3 (by omega)).1, (b 3 (by omega)).2, sw, hS, kp, Option.bind_some]
  by_cases q : sp μ n ≤ al μ n
  · rw [if_pos q, if_neg (by decide)]
    exact main 1 (by rw [if_pos q])
  · rw [if_neg q, if_pos (by decide)]
    exact main 0 (by rw [if_neg q])
theorem yr1_Gd {μ : Nat → Int} {n : Nat} (g : Gd μ n (μ 32).toNat) (g8 : 0 ≤ μ 32) (g9 : μ 32 < 99) : Gd (yr1 μ n) n (yr1 μ n 32).toNat := by
  have h4 := g.1.2.1
  have cb := car_bd g
  have e32 : yr1 μ n 32 = μ 32 + 1 := if_pos rfl
  rw [e32]
  refine ⟨⟨g.1.1, h4, by omega⟩, fun s hs => ?_, fun s hs => ?_, ?_⟩
  · unfold yr1 en
    simp (disch := omega) only [if_neg]
    exact g.2.1 s hs
  · have := g.2.2.1 s hs
    unfold yr1 en
    simp (disch := omega) only [if_neg, if_pos]
    exact ⟨this.2.1, this.2.1, this.2.2⟩
  · have := g.2.2.2
    unfold yr1 en
    simp (disch := omega) only [if_neg, if_pos, if_true]
    exact ⟨this.1, this.2.1, this.2.2.1, this.2.2.2.1, by omega⟩
theorem Ld_year {σC σM : Sto} {n nb t h ac : Nat} {μ : Nat → Int} {un : Nat → Nat → Int} (H : Inv σC σM) (l : Ld σC σM n nb t h ac μ un) (h99 : μ 32 < 99) : ∃ v τC τM, F_X11_year_49 σC = some (v, τC) ∧ F_X12_year_47 σM = some (v, τM) ∧ Inv τC τM := by
  obtain ⟨x, m, h', ac', e1, e2, l', fC, fM⟩ := Ld_push l
  have l'' := l'
  obtain ⟨⟨l1, l2, l3, l4⟩, ⟨g, g8, g9⟩, hm, ⟨hy, hyn⟩, ht, hb, hn, hk, ⟨p1, p2, p3, p4, p5, p6⟩, hi⟩ := l'
  have T := tC_t l4
  have h4 := g.1.2.1
  have eN : μ 32 = ((μ 32).toNat : Int) := by omega
  generalize hNN : (μ 32).toNat = N at *
  have hN : N < 99 := by omega
  obtain ⟨υ, m1, m2, m3, m4, m5⟩ := m_year e2 hm g eN hN
  obtain ⟨y, c1, c2, c3, c4⟩ := c_enter T l4 hy ht g (by rw [hyn, eN]) hN
  obtain ⟨w, d1, d2, d3, d4, d5⟩ := y_end yC_3 T (YR_fr hy (fun a k q1 q2 => c2 a k (by omega))) (TR_fr ht (fun a k q1 q2 => c2 a k (by omega))) g
  obtain ⟨z, f0, f1, f2, f3⟩ := c_forget w
  have e32 : yr1 μ n 32 = μ 32 + 1 := if_pos rfl
  have rC : ∀ a k, (a < 3 ∨ a = 8 ∨ (9 < a ∧ a < 75) ∨ 98 < a) → z.1 a k = x.1 a k := fun a k q => by rw [f1 a k (by omega), d4 a k (by omega) (by omega), c2 a k (by omega)]
  have z2 : z.2 = x.2 := f2.trans (d5.trans c3)
  have st : sT (yr1 μ n) μ n := fun s hs => by
    unfold yr1 en
    simp (disch := omega) only [if_neg, and_self]
  have z30 : z.1 3 0 = zI (N + 1 : Nat) := by
    rw [f1 _ _ (by omega), d3, c2 _ _ (by omega), hyn, eN, zl1, zI_add]; rfl
  have L : Ld z υ n nb t h' ac' (yr1 μ n) un := by
    refine ⟨?_, ⟨?_, by omega, by omega⟩, m2, ⟨⟨fun s hs => ⟨?_, ?_, ?_⟩, fun r hr => ?_, ?_⟩, ?_⟩, TR_sT st ?_, ?_, ?_, fun b hb' => ?_, ⟨p1, p2, ?_, ?_, ?_, fun i hi => ?_, fun i j hij hj => ?_⟩, ?_⟩
    · rw [rC _ _ (by omega), m3 _ _ (by omega), z2]; exact ⟨l1, l2, l3, l4⟩
    · exact yr1_Gd (by rw [hNN]; exact g) g8 (by omega)
    · rw [f1 _ _ (by omega), (d2.1 s hs).1]; unfold yr1; rw [if_neg (by omega)]
    · rw [f1 _ _ (by omega), (d2.1 s hs).2.1]; unfold yr1; rw [if_neg (by omega)]
    · rw [f1 _ _ (by omega), (d2.1 s hs).2.2]; unfold yr1; rw [if_neg (by omega)]
    · rw [f1 _ _ (by omega), d2.2.1 r hr]; unfold yr1; rw [if_neg (by omega)]
    · rw [f1 _ _ (by omega), d2.2.2]; unfold yr1; rw [if_neg (by omega)]
    · rw [z30, e32, eN]; rfl
    · exact TR_fr ht (fun a k q1 q2 => rC a k (by omega))
    · unfold By at *
      simp (disch := omega) only [rC, m3]
      exact hb
    · unfold Nm at *
      rw [z2, m4]
      exact hn
    · rw [e32] at hb'
      have z9 : ∀ k, z.1 9 k = if 4 * N ≤ k ∧ k < 4 * N + 4 then zI (ln4 μ n (k - 4 * N)) else x.1 9 k := fun k => by rw [f1 _ _ (by omega), d4 _ _ (by omega) (by omega)]; exact c4 k
      by_cases q : b = N
      · subst q
        have ba := sp_bd g
        have bb := al_bd0 g
        refine ⟨fun j hj => ?_, ?_⟩
        · rw [m5 _ (by omega), if_pos (by omega), z9, if_pos (by omega), show 34 + 5 * b + j - (34 + 5 * b) = j by omega, show 4 * b + j - 4 * b = j by omega]
          unfold ln5
          rw [if_pos hj]
        · have za : z.1 9 (4 * b) = zI (sp μ n) := by rw [z9, if_pos (by omega), show 4 * b - 4 * b = 0 by omega]; rfl
          have zb : z.1 9 (4 * b + 1) = zI (al μ n) := by rw [z9, if_pos (by omega), show 4 * b + 1 - 4 * b = 1 by omega]; rfl
          rw [m5 _ (by omega), za, zb, if_pos (show 34 + 5 * b ≤ 34 + 5 * b + 4 ∧ 34 + 5 * b + 4 < 34 + 5 * b + 5 by omega), show 34 + 5 * b + 4 - (34 + 5 * b) = 4 by omega]
          show zI (if sp μ n ≤ al μ n then 1 else 0) = if zI (sp μ n) ≤ zI (al μ n) then 1 else 0
          simp (disch := omega) only [zI_le]
          split <;> rfl
      · have kk := hk b (by omega)
        refine ⟨fun j hj => ?_, ?_⟩
        · rw [m5 _ (by omega), if_neg (by omega), z9, if_neg (by omega)]; exact kk.1 j hj
        · have za : z.1 9 (4 * b) = x.1 9 (4 * b) := by rw [z9, if_neg (by omega)]
          have zb : z.1 9 (4 * b + 1) = x.1 9 (4 * b + 1) := by rw [z9, if_neg (by omega)]
          rw [m5 _ (by omega), za, zb, if_neg (show ¬ (34 + 5 * N ≤ 34 + 5 * b + 4 ∧ 34 + 5 * b + 4 < 34 + 5 * N + 5) by omega)]; exact kk.2
    · rw [rC _ _ (by omega)]; exact p3
    · rw [rC _ _ (by omega)]; exact p4
    · rw [m3 _ _ (by omega)]; exact p5
    · obtain ⟨Q, ⟨j1, j2, j3, j4, j5, j6⟩, j7, j8⟩ := p6.1 i hi
      refine ⟨Q, ⟨fun k hk' => ?_, YR_fr j2 (fun a k q1 q2 => rC a k (by omega)), ?_, j4, j5, sT_tr j6 (sT_sym st)⟩, by omega, fun k hk' => ?_⟩
      · rw [m3 _ _ (by omega)]; exact j1 k hk'
      · rw [rC _ _ (by omega)]; exact j3
      · rw [m3 _ _ (by omega), m5 _ (by omega), if_neg (by omega)]; exact j8 k hk'
    · rw [m3 _ _ (by omega), m3 _ _ (by omega)]; exact p6.2 i j hij hj
    · intro i hi'
      rcases hi i hi' with ⟨i1, i2⟩ | ⟨i1, i2, Q, ⟨j1, j2, j3, j4, j5, j6⟩, j7⟩
      · exact Or.inl ⟨by rw [rC _ _ (by omega)]; exact i1, by rw [m3 _ _ (by omega)]; exact i2⟩
      · refine Or.inr ⟨by rw [rC _ _ (by omega)]; exact i1, by rw [m3 _ _ (by omega)]; exact i2, Q, ⟨fun k hk' => ?_, YR_fr j2 (fun a k q1 q2 => rC a k (by omega)), ?_, j4, j5, sT_tr j6 (sT_sym st)⟩, ?_⟩
        · rw [m3 _ _ (by omega)]; exact j1 k hk'
        · rw [rC _ _ (by omega)]; exact j3
        · unfold Bk at *
          simp (disch := omega) only [rC, m3]
          exact j7
  refine ⟨zI (N + 1 : Nat), si z 0 18 (zI 0), _, ?_, m1, Inv_act H ⟨fun b i q => ?_, ?_⟩ (fun b i q => ?_) L (f3 _ _ _ _)⟩
  · unfold F_X11_year_49
    rw [e1, Option.bind_some, l3, Option.bind_some, c1, Option.bind_some, show y.2.2 0 11 = some t from by rw [c3]; exact l3, Option.bind_some, d1, Option.bind_some, f0, Option.bind_some, z30]
    rfl
  · rw [rC _ _ (by omega)]; exact fC.1 _ _ (by omega)
  · exact z2.trans fC.2
  · rw [m3 _ _ (by omega)]; exact fM.1 _ _ (by omega) (by omega)
theorem sp_year : Sp_year Inv := by
  intro σC σM i hb01 h
  have h := Inv_0 h
  unfold F_X11_year F_X12_year F_X11_year_43 F_X12_year_41
  rw [sw]
  generalize si σM 0 0 0 = s1 at h ⊢
  rcases h.2.2.2 with ⟨u1, u2⟩ | ⟨n, nb, t, hd, ac, μ, un, ⟨⟨l1, l2, l3, l4⟩, ⟨g, g8, g9⟩, hm, ⟨hy, hyn⟩, ht, hb, hn, hk, hp, hi⟩, ca⟩
  · refine q_fin h (w := zI 1) (by decide) (v := zI (-1)) ?_ ?_
    · rw [if_pos u1]
      simp (disch := omega) only [↓reduceIte, and_self, true_and, and_true, false_and, and_false, Int.reduceEq, Int.reduceLT, Int.reduceLE, sw, Option.bind_some, zl0, zl1, zl2, zl3, zl4, zl5, zl6, zl7, zl8, zl9, zl10, zl20, zl21, zl28, zl33, zl34, zI_neg, zI_add, zI_sub, zI_mul, zI_lt, zI_le, zI_eq, zI_ib, zI_ix, if_pos, if_neg, F_X11_answer, F_X11_refuse, F_X12_tells, F_X12_refused, if_true, if_false]
    · rw [if_pos u2]
      simp (disch := omega) only [↓reduceIte, and_self, true_and, and_true, false_and, and_false, Int.reduceEq, Int.reduceLT, Int.reduceLE, sw, Option.bind_some, zl0, zl1, zl2, zl3, zl4, zl5, zl6, zl7, zl8, zl9, zl10, zl20, zl21, zl28, zl33, zl34, zI_neg, zI_add, zI_sub, zI_mul, zI_lt, zI_le, zI_eq, zI_ib, zI_ix, if_pos, if_neg, F_X11_answer, F_X11_refuse, F_X12_tells, F_X12_refused, if_true, if_false]
  · have L : Ld σC s1 n nb t hd ac μ un := ⟨⟨l1, l2, l3, l4⟩, ⟨g, g8, g9⟩, hm, ⟨hy, hyn⟩, ht, hb, hn, hk, hp, hi⟩
    have T := tC_t l4
    rw [if_neg (show ¬ σC.1 0 13 = 0 by rw [l1]; decide), if_neg (show ¬ s1.1 0 25 = 0 by rw [l2]; decide), hyn, show ix 32 = 32 from by decide, hm.1 32 (by omega)]
    by_cases q : μ 32 = 99
    · refine q_fin h (w := zI 5) (by decide) (v := zI (-1)) ?_ ?_
      · rw [if_pos (by rw [q]; decide)]; rfl
      · rw [if_pos (by rw [q]; decide)]; rfl
    · rw [if_neg (show ¬ 99 ≤ zI (μ 32) from by rw [show (99 : Int32) = zI 99 from by decide, zI_le (by omega) (by omega) (by omega) (by omega)]; omega), if_neg (show ¬ zI (μ 32) = 99 from by rw [show (99 : Int32) = zI 99 from by decide, zI_eq (by omega) (by omega) (by omega) (by omega)]; omega)]
      by_cases q1 : i = 0
      · rw [if_pos q1, if_pos q1, l3, Option.bind_some, y_isKept yC_3 T hy ht g, Option.bind_some, m_isKept hm g, Option.bind_some]
        by_cases q2 : sp μ n ≤ al μ n
        · rw [if_pos q2, if_neg (by decide), if_neg (by decide)]
          exact Ld_year h L (by omega)
        · rw [if_neg q2, if_pos (by decide), if_pos (by decide)]
          exact q_fin h (w := zI 5) (by decide) (v := zI (-1)) rfl rfl
      · rw [if_neg q1, if_neg q1]
        exact Ld_year h L (by omega)
