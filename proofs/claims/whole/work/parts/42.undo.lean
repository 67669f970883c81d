/-! UNDO -/
theorem m_undo {σ : Sto} {A : Nat} (hA : A < 10) (h24 : σ.1 0 24 = zI A) : ∀ (d j k : Nat) (τ : Sto), j + d = 534 → d < k → (∀ a i, a ≠ 2 → τ.1 a i = σ.1 a i) → τ.2 = σ.2 → (∀ i, τ.1 2 i = if i < j then σ.1 5 (534 * A + i) else σ.1 2 i) → ∃ υ, F_X12_undo_43 k τ (zI j) = some (zI A, si (si υ 0 1 (zI 0)) 0 2 (-1)) ∧ (∀ a i, a ≠ 2 → υ.1 a i = σ.1 a i) ∧ υ.2 = σ.2 ∧ ∀ i, υ.1 2 i = if i < 534 then σ.1 5 (534 * A + i) else σ.1 2 i := by
  intro d
  induction d with
  | zero =>
    intro j k τ hj hk h1 h2 h3
    obtain ⟨k, rfl⟩ : ∃ j, k = j + 1 := ⟨k - 1, by omega⟩
    obtain rfl : j = 534 := by omega
    refine ⟨τ, ?_, h1, h2, h3⟩
    rw [F_X12_undo_43, if_pos (by decide), h1 0 24 (by omega), h24]
    rfl
  | succ d ih =>
    intro j k τ hj hk h1 h2 h3
    obtain ⟨k, rfl⟩ : ∃ j, k = j + 1 := ⟨k - 1, by omega⟩
    obtain ⟨υ, e, r⟩ := ih (j + 1) k (si τ 2 j (σ.1 5 (534 * A + j))) (by omega) (by omega) (fun a i q => by rw [si_rd, if_neg (by omega)]; exact h1 a i q) h2 (fun i => by
      rw [si_rd]
      by_cases q : i = j
      · rw [if_pos ⟨rfl, q⟩, if_pos (by omega), q]
      · rw [if_neg (by omega), h3 i]
        by_cases q2 : i < j
        · rw [if_pos q2, if_pos (by omega)]
        · rw [if_neg q2, if_neg (by omega)])
    refine ⟨υ, ?_, r⟩
    rw [F_X12_undo_43, if_neg (show ¬ 534 ≤ zI (j : Int) from by rw [show (534 : Int32) = zI 534 from by decide, zI_le (by omega) (by omega) (by omega) (by omega)]; omega), h1 0 24 (by omega), h24, show (534 : Int32) = zI 534 from by decide, zI_mul, zI_add, if_pos (show ib (zI ((A : Int) * 534 + j)) 5340 from by rw [zI_ib (by omega) (by omega)]; omega), if_pos (show ib (zI (j : Int)) 534 from by rw [zI_ib (by omega) (by omega)]; omega), zI_ix (by omega) (by omega), zI_ix (by omega) (by omega), sw, h1 5 _ (by omega), Int.toNat_natCast, show ((A : Int) * 534 + j).toNat = 534 * A + j by omega, zl1, zI_add]
    exact e
theorem c_pop {σ : Sto} {h ac : Nat} (hh : h < 10) (hac : ac ≤ 10) (h1 : 1 ≤ ac) (e1 : σ.1 10 1 = zI h) (e2 : σ.1 10 2 = zI ac) : ∃ τ, F_X5_pop σ 3 = some τ ∧ (∀ a k, ¬ (a = 10 ∧ (k = 1 ∨ k = 2)) → (a < 3 ∨ 7 < a) → τ.1 a k = σ.1 a k) ∧ τ.2 = σ.2 ∧ τ.1 10 1 = zI (((h + 9) % 10 : Nat) : Int) ∧ τ.1 10 2 = zI ((ac - 1 : Nat) : Int) ∧ τ.1 3 0 = σ.1 (12 + 5 * ((h + 9) % 10)) 0 ∧ τ.1 3 1 = σ.1 (12 + 5 * ((h + 9) % 10)) 1 ∧ ∀ j, 1 ≤ j → j ≤ 4 → ∀ k, k < 4 → τ.1 (3 + j) k = σ.1 (12 + 5 * ((h + 9) % 10) + j) k := by
  have m1 : ((zI (h : Int) + 10) - 1) - ((zI (h : Int) + 10) - 1) / 10 * 10 = zI (((h + 9) % 10 : Nat) : Int) := by
    have e10 : (10 : Int32) = zI ((10 : Nat) : Int) := by decide
    rw [show (zI (h : Int) + 10) - 1 = zI ((h + 9 : Nat) : Int) from by rw [zl10, zl1, zI_add, zI_sub]; congr 1; omega, e10]
    exact zI_mod (x := h + 9) (y := 10) (by omega) (by omega)
  generalize hS : (h + 9) % 10 = S at *
  have S10 : S < 10 := by omega
  obtain ⟨υ, c1, c2, c3, c4, c5, c6⟩ := y_copy (σ := si σ 10 1 (zI (S : Int))) (a0 := 3) (a1 := 12 + 5 * S) (by decide) (shC_ring S10) (by omega)
  have d1 : (si σ 10 1 (zI (S : Int))).1 10 1 = zI S := by rw [si_rd, if_pos ⟨rfl, rfl⟩]
  have d2 : υ.1 10 2 = zI ac := by rw [c2 10 2 (by omega), si_rd, if_neg (by omega)]; exact e2
  refine ⟨si υ 10 2 (zI ((ac - 1 : Nat) : Int)), ?_, fun a k q1 q2 => ?_, c3, ?_, ?_, ?_, ?_, fun j j1 j2 k hk => ?_⟩
  · unfold F_X5_pop
    rw [e1, m1, sw, d1, if_pos (show ib (zI (S : Int)) 10 from by rw [zI_ib (by omega) (by omega)]; omega), if_pos (by decide), zI_ix (by omega) (by omega), Int.toNat_natCast, c1, Option.bind_some, sw, d2, zl1, zI_sub, show (ac : Int) - 1 = ((ac - 1 : Nat) : Int) by omega]
  · rw [si_rd, if_neg (by omega), c2 a k q2, si_rd, if_neg (by omega)]
  · rw [si_rd, if_neg (by omega), c2 10 1 (by omega)]; exact d1
  · rw [si_rd, if_pos ⟨rfl, rfl⟩]
  · rw [si_rd, if_neg (by omega), c4, si_rd, if_neg (by omega)]
  · rw [si_rd, if_neg (by omega), c5, si_rd, if_neg (by omega)]
  · rw [si_rd, if_neg (by omega), c6 j j1 j2 k hk, si_rd, if_neg (by omega)]
theorem GdT_sT {P μ : Nat → Int} {n : Nat} (h : sT P μ n) (g : GdT μ n) : GdT P n := fun s hs => by
  rw [(h s hs).1, (h s hs).2.1, (h s hs).2.2.1, (h s hs).2.2.2]
  exact g s hs
theorem sp_undo : Sp_undo Inv := by
  intro σC σM h
  have h := Inv_0 h
  unfold F_X11_undo F_X12_undo
  rw [sw]
  generalize si σM 0 0 0 = s1 at h ⊢
  rcases h.2.2.2 with ⟨u1, u2⟩ | ⟨n, nb, t, hd, ac, μ, un, ⟨⟨l1, l2, l3, l4⟩, ⟨g, g8, g9⟩, hm, ⟨hy, hyn⟩, ht, hb, hn, hk, hp, hi⟩, ca⟩
  · refine q_fin h (w := zI 1) (by decide) (v := zI (-1)) ?_ ?_
    · rw [if_pos u1]
      simp (disch := omega) only [↓reduceIte, and_self, true_and, and_true, false_and, and_false, Int.reduceEq, Int.reduceLT, Int.reduceLE, sw, Option.bind_some, zl0, zl1, zl2, zl3, zl4, zl5, zl6, zl7, zl8, zl9, zl10, zl20, zl21, zl28, zl33, zl34, zI_neg, zI_add, zI_sub, zI_mul, zI_lt, zI_le, zI_eq, zI_ib, zI_ix, if_pos, if_neg, F_X11_answer, F_X11_refuse, F_X12_tells, F_X12_refused, if_true, if_false]
    · rw [if_pos u2]
      simp (disch := omega) only [↓reduceIte, and_self, true_and, and_true, false_and, and_false, Int.reduceEq, Int.reduceLT, Int.reduceLE, sw, Option.bind_some, zl0, zl1, zl2, zl3, zl4, zl5, zl6, zl7, zl8, zl9, zl10, zl20, zl21, zl28, zl33, zl34, zI_neg, zI_add, zI_sub, zI_mul, zI_lt, zI_le, zI_eq, zI_ib, zI_ix, if_pos, if_neg, F_X11_answer, F_X11_refuse, F_X12_tells, F_X12_refused, if_true, if_false]
  · have t4 := l4
    have h4 := g.1.2.1
    obtain ⟨p1, p2, p3, p4, p5, p6⟩ := hp
    rw [if_neg (show ¬ σC.1 0 13 = 0 by rw [l1]; decide), if_neg (show ¬ s1.1 0 25 = 0 by rw [l2]; decide), p4, p5]
    by_cases q : ac = 0
    · subst q
      · refine q_fin h (w := zI 5) (by decide) (v := zI (-1)) ?_ ?_
        · rw [if_pos (by decide)]
          simp (disch := omega) only [↓reduceIte, and_self, true_and, and_true, false_and, and_false, Int.reduceEq, Int.reduceLT, Int.reduceLE, sw, Option.bind_some, zl0, zl1, zl2, zl3, zl4, zl5, zl6, zl7, zl8, zl9, zl10, zl20, zl21, zl28, zl33, zl34, zI_neg, zI_add, zI_sub, zI_mul, zI_lt, zI_le, zI_eq, zI_ib, zI_ix, if_pos, if_neg, F_X11_answer, F_X11_refuse, F_X12_tells, F_X12_refused, if_true, if_false]
        · rw [if_pos (by decide)]
          simp (disch := omega) only [↓reduceIte, and_self, true_and, and_true, false_and, and_false, Int.reduceEq, Int.reduceLT, Int.reduceLE, sw, Option.bind_some, zl0, zl1, zl2, zl3, zl4, zl5, zl6, zl7, zl8, zl9, zl10, zl20, zl21, zl28, zl33, zl34, zI_neg, zI_add, zI_sub, zI_mul, zI_lt, zI_le, zI_eq, zI_ib, zI_ix, if_pos, if_neg, F_X11_answer, F_X11_refuse, F_X12_tells, F_X12_refused, if_true, if_false]
    · have q0 : ¬ zI (ac : Int) = 0 := by rw [zl0, zI_eq (by omega) (by omega) (by omega) (by omega)]; omega
      rw [if_neg q0, if_neg q0, sw, show zI (ac : Int) - 1 = zI ((ac - 1 : Nat) : Int) from by rw [zl1, zI_sub]; congr 1; omega]
      obtain ⟨x, c1, c2, c3, c4, c5, c6, c7, c8⟩ := c_pop p2 p1 (by omega) p3 p4
      obtain ⟨y, f0, f1, f2, f3⟩ := c_forget x
      obtain ⟨υ, m1, m2, m3, m4⟩ := m_undo (σ := si s1 0 24 (zI ((ac - 1 : Nat) : Int))) (A := ac - 1) (by omega) (by rw [si_rd, if_pos ⟨rfl, rfl⟩]) 534 0 FU _ (by omega) (FU_lt (by omega)) (fun _ _ _ => rfl) rfl (fun i => by rw [if_neg (by omega)])
      have r2 : ∀ i, i < 534 → υ.1 2 i = s1.1 5 (534 * (ac - 1) + i) := fun i hi => by rw [m4, if_pos hi, si_rd, if_neg (by omega)]
      have rM : ∀ a i, a ≠ 2 → ¬ (a = 0 ∧ i = 24) → υ.1 a i = s1.1 a i := fun a i q1 q2 => by rw [m2 a i q1, si_rd, if_neg q2]
      have rC : ∀ a k, ¬ (a = 10 ∧ (k = 1 ∨ k = 2)) → (a < 3 ∨ (7 < a ∧ a < 75) ∨ 98 < a) → y.1 a k = σC.1 a k := fun a k q1 q2 => by rw [f1 a k (by omega)]; exact c2 a k q1 (by omega)
      have fy2 : y.2 = σC.2 := f2.trans c3
      have fm2 : υ.2 = s1.2 := m3
      obtain ⟨P, ⟨k1, k2, k3, k4, k5, k6⟩, k7, k8⟩ := p6.1 (ac - 1) (by omega)
      rw [show (hd + 10 - ac + (ac - 1)) % 10 = (hd + 9) % 10 by omega] at k2 k3
      have L : Ld y υ n nb t ((hd + 9) % 10) (ac - 1) P un := by
        refine ⟨?_, ⟨⟨⟨g.1.1, h4, by omega⟩, GdT_sT k6 g.2.1, k4⟩, k5⟩, ⟨fun k hk => ?_, ?_⟩, ⟨⟨fun s hs => ⟨?_, ?_, ?_⟩, fun r hr => ?_, ?_⟩, ?_⟩, TR_sT k6 ?_, ?_, ?_, fun z hz => ?_, ⟨by omega, Nat.mod_lt _ (by omega), ?_, ?_, ?_, fun i hi => ?_, fun i j hij hj => ?_⟩, ?_⟩
        · rw [rC _ _ (by omega) (by omega), rM _ _ (by omega) (by omega), fy2]; exact ⟨l1, l2, l3, l4⟩
        · rw [r2 k (by omega)]; exact k1 k hk
        · rw [rM _ _ (by omega) (by omega)]; exact hm.2
        · rw [f1 _ _ (by omega), c8 1 (by omega) (by omega) s (by omega)]; exact (k2.1 s hs).1
        · rw [f1 _ _ (by omega), c8 2 (by omega) (by omega) s (by omega)]; exact (k2.1 s hs).2.1
        · rw [f1 _ _ (by omega), c8 3 (by omega) (by omega) s (by omega)]; exact (k2.1 s hs).2.2
        · rw [f1 _ _ (by omega), c8 4 (by omega) (by omega) r (by omega)]; exact k2.2.1 r hr
        · rw [f1 _ _ (by omega), c7]; exact k2.2.2
        · rw [f1 _ _ (by omega), c6]; exact k3
        · unfold TR TV at *
          simp (disch := omega) only [rC]
          exact ht
        · unfold By at *
          simp (disch := omega) only [rC, rM]
          exact hb
        · unfold Nm at *
          rw [fy2, fm2]
          exact hn
        · have hz2 : z < (μ 32).toNat := by omega
          have kk := hk z hz2
          have e5 : ∀ i, i < 5 → υ.1 2 (34 + 5 * z + i) = s1.1 2 (34 + 5 * z + i) := fun i hi => by
            rw [r2 _ (by omega)]
            have := k8 (5 * z + i) (by omega)
            rw [show 34 + (5 * z + i) = 34 + 5 * z + i by omega] at this
            exact this
          refine ⟨fun j hj => ?_, ?_⟩
          · rw [e5 j (by omega), rC _ _ (by omega) (by omega)]; exact kk.1 j hj
          · rw [e5 4 (by omega), rC _ _ (by omega) (by omega), rC _ _ (by omega) (by omega)]; exact kk.2
        · rw [f1 _ _ (by omega)]; exact c4
        · rw [f1 _ _ (by omega)]; exact c5
        · rw [m2 _ _ (by omega), si_rd, if_pos ⟨rfl, rfl⟩]
        · obtain ⟨Q, ⟨j1, j2, j3, j4, j5, j6⟩, j7, j8⟩ := p6.1 i (by omega)
          have sl : ((hd + 9) % 10 + 10 - (ac - 1) + i) % 10 = (hd + 10 - ac + i) % 10 := by omega
          have mono := p6.2 i (ac - 1) (by omega) (by omega)
          rw [j1 32 (by omega), k1 32 (by omega), zI_le (by omega) (by omega) (by omega) (by omega)] at mono
          rw [sl]
          refine ⟨Q, ⟨fun k hk' => ?_, ?_, ?_, j4, j5, sT_tr j6 (sT_sym k6)⟩, mono, fun k hk' => ?_⟩
          · rw [rM _ _ (by omega) (by omega)]; exact j1 k hk'
          · unfold YR at *
            simp (disch := omega) only [rC]
            exact j2
          · rw [rC _ _ (by omega) (by omega)]; exact j3
          · rw [rM _ _ (by omega) (by omega), j8 k hk', r2 _ (by omega), k8 k (by omega)]
        · rw [rM _ _ (by omega) (by omega), rM _ _ (by omega) (by omega)]; exact p6.2 i j hij (by omega)
        · intro i hi'
          rcases hi i hi' with ⟨i1, i2⟩ | ⟨i1, i2, Q, ⟨j1, j2, j3, j4, j5, j6⟩, j7⟩
          · exact Or.inl ⟨by rw [rC _ _ (by omega) (by omega)]; exact i1, by rw [rM _ _ (by omega) (by omega)]; exact i2⟩
          · refine Or.inr ⟨by rw [rC _ _ (by omega) (by omega)]; exact i1, by rw [rM _ _ (by omega) (by omega)]; exact i2, Q, ⟨fun k hk' => ?_, ?_, ?_, j4, j5, sT_tr j6 (sT_sym k6)⟩, ?_⟩
            · rw [rM _ _ (by omega) (by omega)]; exact j1 k hk'
            · unfold YR at *
              simp (disch := omega) only [rC]
              exact j2
            · rw [rC _ _ (by omega) (by omega)]; exact j3
            · unfold Bk at *
              simp (disch := omega) only [rC, rM]
              exact j7
      refine ⟨zI ((ac - 1 : Nat) : Int), si y 0 18 (zI 0), _, ?_, m1, Inv_act h ⟨fun b i q => rC _ _ (by omega) (by omega), fy2⟩ (fun b i q => rM _ _ (by omega) (by omega)) L (f3 _ _ _ _)⟩
      rw [c1, Option.bind_some, f0, Option.bind_some, f1 _ _ (by omega), c5]
      rfl
