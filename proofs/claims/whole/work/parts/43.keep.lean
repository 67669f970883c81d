/-! KEEP -/
theorem m_keep {σ : Sto} {A : Nat} (hA : A < 2) : ∀ (d j k : Nat) (τ : Sto), j + d = 534 → d < k → (∀ a i, a ≠ 6 → τ.1 a i = σ.1 a i) → τ.2 = σ.2 → (∀ i, τ.1 6 i = if 534 * A ≤ i ∧ i < 534 * A + j then σ.1 2 (i - 534 * A) else σ.1 6 i) → ∃ υ, F_X12_keep_29 k τ (zI A) (zI j) = some (zI 1, si (si υ 0 1 (zI 0)) 0 2 (-1)) ∧ (∀ a i, a ≠ 6 → ¬ (a = 9 ∧ i = A) → υ.1 a i = σ.1 a i) ∧ υ.2 = σ.2 ∧ υ.1 9 A = 1 ∧ ∀ i, υ.1 6 i = if 534 * A ≤ i ∧ i < 534 * A + 534 then σ.1 2 (i - 534 * A) else σ.1 6 i := by
  intro d
  induction d with
  | zero =>
    intro j k τ hj hk h1 h2 h3
    obtain ⟨k, rfl⟩ : ∃ j, k = j + 1 := ⟨k - 1, by omega⟩
    obtain rfl : j = 534 := by omega
    refine ⟨si τ 9 A 1, ?_, fun a i q1 q2 => ?_, h2, ?_, fun i => ?_⟩
    · rw [F_X12_keep_29, if_pos (by decide), if_pos (show ib (zI (A : Int)) 2 from by rw [zI_ib (by omega) (by omega)]; omega), zI_ix (by omega) (by omega), Int.toNat_natCast]
      rfl
    · rw [si_rd, if_neg q2]; exact h1 a i q1
    · rw [si_rd, if_pos ⟨rfl, rfl⟩]
    · rw [si_rd, if_neg (by omega)]; exact h3 i
  | succ d ih =>
    intro j k τ hj hk h1 h2 h3
    obtain ⟨k, rfl⟩ : ∃ j, k = j + 1 := ⟨k - 1, by omega⟩
    obtain ⟨υ, e, r⟩ := ih (j + 1) k (si τ 6 (534 * A + j) (σ.1 2 j)) (by omega) (by omega) (fun a i q => by rw [si_rd, if_neg (by omega)]; exact h1 a i q) h2 (fun i => by
      rw [si_rd]
      by_cases q : i = 534 * A + j
      · rw [if_pos ⟨rfl, q⟩, if_pos (by omega), q, show 534 * A + j - 534 * A = j by omega]
      · rw [if_neg (by omega), h3 i]
        by_cases q2 : 534 * A ≤ i ∧ i < 534 * A + j
        · rw [if_pos q2, if_pos (by omega)]
        · rw [if_neg q2, if_neg (by omega)])
    refine ⟨υ, ?_, r⟩
    rw [F_X12_keep_29, if_neg (show ¬ 534 ≤ zI (j : Int) from by rw [show (534 : Int32) = zI 534 from by decide, zI_le (by omega) (by omega) (by omega) (by omega)]; omega), show (534 : Int32) = zI 534 from by decide, zI_mul, zI_add, if_pos (show ib (zI (j : Int)) 534 from by rw [zI_ib (by omega) (by omega)]; omega), if_pos (show ib (zI (534 * (A : Int) + j)) 1068 from by rw [zI_ib (by omega) (by omega)]; omega), zI_ix (by omega) (by omega), zI_ix (by omega) (by omega), sw, h1 2 _ (by omega), Int.toNat_natCast, show (534 * (A : Int) + j).toNat = 534 * A + j by omega, zl1, zI_add]
    exact e
theorem shC_im {i : Nat} (hi : i < 2) : (shC (118 + 8 * i)).1 = 3 ∧ (shC (118 + 8 * i + 1)).1 = 10 ∧ (shC (118 + 8 * i + 6)).1 = 0 := by
  rcases (show i = 0 ∨ i = 1 by omega) with rfl | rfl <;> decide
theorem b_copy {σ : Sto} {a0 a1 N : Nat} (h0 : (shC a0).1 = 0) (h1 : (shC a1).1 = 0) (hN : N ≤ 99) : ∃ τ, F_X0_copy σ a0 a1 (zI N) = some τ ∧ (∀ a k, a ≠ a0 + 1 → τ.1 a k = σ.1 a k) ∧ τ.2 = σ.2 ∧ ∀ k, τ.1 (a0 + 1) k = if k < 4 * N then σ.1 (a1 + 1) k else σ.1 (a0 + 1) k := by
  have e0 : ix 0 = 0 := by decide
  have e4 : ix (zI (N : Int) * 4) = 4 * N := by
    rw [zl4, zI_mul, zI_ix (by omega) (by omega)]
    omega
  have n4 : ¬ zI (N : Int) * 4 < 0 := by
    rw [zl4, zI_mul, zl0, zI_lt (by omega) (by omega) (by omega) (by omega)]
    omega
  unfold F_X0_copy
  rw [if_pos h1, if_pos h0, e0, e4, if_pos ⟨n4, by omega⟩]
  refine ⟨_, rfl, fun a k q => ?_, rfl, fun k => ?_⟩
  · rw [sI_rd, if_neg q]
  · rw [sI_rd, if_pos rfl]
    unfold va_cpy
    by_cases q : k < 4 * N
    · rw [if_pos (by omega), if_pos q, Nat.zero_add, Nat.sub_zero]
    · rw [if_neg (by omega), if_neg q]
theorem sp_keep : Sp_keep Inv := by
  intro σC σM i h
  have h := Inv_0 h
  obtain ⟨z, hz1, hz2, rfl⟩ := zI_of i
  unfold F_X11_keep F_X12_keep F_X11_keep_16 F_X12_keep_21
  rw [sw]
  generalize si σM 0 0 0 = s1 at h ⊢
  rcases h.2.2.2 with ⟨u1, u2⟩ | ⟨n, nb, t, hd, ac, μ, un, ⟨⟨l1, l2, l3, l4⟩, ⟨g, g8, g9⟩, hm, ⟨hy, hyn⟩, ht, hb, hn, hk, hp, hi⟩, ca⟩
  · refine q_fin h (w := zI 1) (by decide) (v := zI 0) ?_ ?_
    · rw [if_pos u1]; rfl
    · rw [if_pos u2]; rfl
  · have h4 := g.1.2.1
    have t4 := l4
    rw [if_neg (show ¬ σC.1 0 13 = 0 by rw [l1]; decide), if_neg (show ¬ s1.1 0 25 = 0 by rw [l2]; decide)]
    have mI : F_X12_in s1 (zI z) 0 1 = some (if 0 ≤ z ∧ z ≤ 1 then zI 1 else zI 0) := m_in s1 ⟨hz1, hz2⟩ (b := 0) (c := 1) (by omega) (by omega)
    have c0 : (zI z < 0) = (z < 0) := zI_lt (b := 0) (by omega) (by omega) (by omega) (by omega)
    have c2' : (zI z < 2) = (z < 2) := zI_lt (b := 2) (by omega) (by omega) (by omega) (by omega)
    rw [mI, Option.bind_some]
    by_cases q : 0 ≤ z ∧ z ≤ 1
    · obtain ⟨A, rfl⟩ : ∃ A : Nat, z = A := ⟨z.toNat, by omega⟩
      have hA : A < 2 := by omega
      obtain ⟨s3, s10, s0⟩ := shC_im hA
      rw [if_pos q, if_neg (show ¬ zI 1 = 0 by decide), if_neg (by rw [c0]; omega), if_pos (by rw [c2']; omega), if_pos (show ib (zI (A : Int)) 2 from by rw [zI_ib (by omega) (by omega)]; omega), zI_ix (by omega) (by omega), Int.toNat_natCast]
      obtain ⟨x, c1, c2, c3, c4, c5, c6⟩ := y_copy (σ := si σC (118 + 8 * A) 0 1) (a0 := 118 + 8 * A + 1) (a1 := 3) s10 (by decide) (by omega)
      have x30 : x.1 3 0 = zI ((μ 32).toNat : Int) := by rw [c2 _ _ (by omega), si_rd, if_neg (by omega), hyn, show (((μ 32).toNat : Nat) : Int) = μ 32 by omega]
      obtain ⟨y, d1, d2, d3, d4⟩ := b_copy (σ := x) (a0 := 118 + 8 * A + 6) (a1 := 8) (N := (μ 32).toNat) s0 (by decide) (by omega)
      obtain ⟨υ, m1, m2, m3, m4, m5⟩ := m_keep (σ := s1) (A := A) hA 534 0 FU s1 (by omega) (FU_lt (by omega)) (fun _ _ _ => rfl) rfl (fun i => by rw [if_neg (by omega)])
      have rC : ∀ a k, (a < 118 + 8 * A ∨ 118 + 8 * A + 7 < a) → y.1 a k = σC.1 a k := fun a k q1 => by rw [d2 a k (by omega), c2 a k (by omega), si_rd, if_neg (by omega)]
      have r1 : ∀ a k, a ≤ 118 + 8 * A + 6 → y.1 a k = x.1 a k := fun a k q1 => d2 a k (by omega)
      have fy2 : y.2 = σC.2 := d3.trans c3
      have rs : ∀ a k, a < 118 → (si σC (118 + 8 * A) 0 1).1 a k = σC.1 a k := fun a k q1 => by rw [si_rd, if_neg (by omega)]
      have L : Ld y υ n nb t hd ac μ un := by
        obtain ⟨p1, p2, p3, p4, p5, p6⟩ := hp
        refine ⟨?_, ⟨g, g8, g9⟩, ⟨fun k hk => ?_, ?_⟩, ⟨?_, ?_⟩, ?_, ?_, ?_, ?_, ⟨p1, p2, ?_, ?_, ?_, fun i hi => ?_, fun i j hij hj => ?_⟩, ?_⟩
        · rw [rC _ _ (by omega), m2 _ _ (by omega) (by omega), fy2]; exact ⟨l1, l2, l3, l4⟩
        · rw [m2 _ _ (by omega) (by omega)]; exact hm.1 k hk
        · rw [m2 _ _ (by omega) (by omega)]; exact hm.2
        · unfold YR at *
          simp (disch := omega) only [rC]
          exact hy
        · rw [rC _ _ (by omega)]; exact hyn
        · unfold TR TV at *
          simp (disch := omega) only [rC]
          exact ht
        · unfold By at *
          simp (disch := omega) only [rC, m2]
          exact hb
        · unfold Nm at *
          rw [fy2, m3]
          exact hn
        · unfold Bk at *
          simp (disch := omega) only [rC, m2]
          exact hk
        · rw [rC _ _ (by omega)]; exact p3
        · rw [rC _ _ (by omega)]; exact p4
        · rw [m2 _ _ (by omega) (by omega)]; exact p5
        · obtain ⟨Q, ⟨j1, j2, j3, j4⟩, j7, j8⟩ := p6.1 i hi
          refine ⟨Q, ⟨fun k hk' => ?_, ?_, ?_, j4⟩, j7, fun k hk' => ?_⟩
          · rw [m2 _ _ (by omega) (by omega)]; exact j1 k hk'
          · unfold YR at *
            simp (disch := omega) only [rC]
            exact j2
          · rw [rC _ _ (by omega)]; exact j3
          · rw [m2 _ _ (by omega) (by omega), m2 _ _ (by omega) (by omega)]; exact j8 k hk'
        · rw [m2 _ _ (by omega) (by omega), m2 _ _ (by omega) (by omega)]; exact p6.2 i j hij hj
        · intro i hi'
          by_cases e : i = A
          · subst e
            refine Or.inr ⟨?_, m4, μ, ⟨fun k hk' => ?_, ⟨fun s hs => ⟨?_, ?_, ?_⟩, fun r hr => ?_, ?_⟩, ?_, g.2.2, ⟨g8, g9⟩, fun s hs => ⟨rfl, rfl, rfl, rfl⟩⟩, fun w hw => ?_⟩
            · rw [r1 _ _ (by omega), c2 _ _ (by omega), si_rd, if_pos ⟨rfl, rfl⟩]
            · rw [m5, if_pos (by omega), show 534 * i + k - 534 * i = k by omega]; exact hm.1 k hk'
            · rw [r1 _ _ (by omega), show 119 + 8 * i = 118 + 8 * i + 1 by omega]
              exact (c6 1 (by omega) (by omega) s (by omega)).trans ((rs _ _ (by omega)).trans (hy.1 s hs).1)
            · rw [r1 _ _ (by omega), show 119 + 8 * i = 118 + 8 * i + 1 by omega]
              exact (c6 2 (by omega) (by omega) s (by omega)).trans ((rs _ _ (by omega)).trans (hy.1 s hs).2.1)
            · rw [r1 _ _ (by omega), show 119 + 8 * i = 118 + 8 * i + 1 by omega]
              exact (c6 3 (by omega) (by omega) s (by omega)).trans ((rs _ _ (by omega)).trans (hy.1 s hs).2.2)
            · rw [r1 _ _ (by omega), show 119 + 8 * i = 118 + 8 * i + 1 by omega]
              exact (c6 4 (by omega) (by omega) r (by omega)).trans ((rs _ _ (by omega)).trans (hy.2.1 r hr))
            · rw [r1 _ _ (by omega), show 119 + 8 * i = 118 + 8 * i + 1 by omega]
              exact c5.trans ((rs _ _ (by omega)).trans hy.2.2)
            · rw [r1 _ _ (by omega), show 119 + 8 * i = 118 + 8 * i + 1 by omega]
              exact c4.trans ((rs _ _ (by omega)).trans hyn)
            · have kk := hk w hw
              have e6 : ∀ j, j < 5 → υ.1 6 (534 * i + 34 + 5 * w + j) = s1.1 2 (34 + 5 * w + j) := fun j hj => by rw [m5, if_pos (by omega), show 534 * i + 34 + 5 * w + j - 534 * i = 34 + 5 * w + j by omega]
              have e7 : ∀ j, j < 4 → y.1 (125 + 8 * i) (4 * w + j) = σC.1 9 (4 * w + j) := fun j hj => by
                have := d4 (4 * w + j)
                rw [if_pos (by omega), c2 _ _ (by omega), si_rd, if_neg (by omega)] at this
                rw [show 125 + 8 * i = 118 + 8 * i + 6 + 1 by omega]
                exact this
              refine ⟨fun j hj => ?_, ?_⟩
              · rw [e6 j (by omega), e7 j hj]; exact kk.1 j hj
              · rw [e6 4 (by omega), e7 1 (by omega)]
                have e8 := e7 0 (by omega)
                rw [Nat.add_zero] at e8
                rw [e8]
                exact kk.2
          · rcases hi i hi' with ⟨i1, i2⟩ | ⟨i1, i2, Q, ⟨j1, j2, j3, j4⟩, j7⟩
            · exact Or.inl ⟨by rw [rC _ _ (by omega)]; exact i1, by rw [m2 _ _ (by omega) (by omega)]; exact i2⟩
            · refine Or.inr ⟨by rw [rC _ _ (by omega)]; exact i1, by rw [m2 _ _ (by omega) (by omega)]; exact i2, Q, ⟨fun k hk' => ?_, ?_, ?_, j4⟩, fun w hw => ?_⟩
              · rw [m5, if_neg (by omega)]; exact j1 k hk'
              · unfold YR at *
                simp (disch := omega) only [rC]
                exact j2
              · rw [rC _ _ (by omega)]; exact j3
              · have b9 := j4.2.1
                have kk := j7 w hw
                refine ⟨fun j hj => ?_, ?_⟩
                · rw [m5, if_neg (by omega), rC _ _ (by omega)]; exact kk.1 j hj
                · rw [m5, if_neg (by omega), rC _ _ (by omega), rC _ _ (by omega)]; exact kk.2
      refine ⟨zI 1, si y 0 18 (zI 0), _, ?_, m1, Inv_act h ⟨fun b i q => rC _ _ (by omega), fy2⟩ (fun b i q => m2 _ _ (by omega) (by omega)) L (Ca_ag (fun a h1 h2 => ?_) ca)⟩
      · rw [F_X3_take, if_pos s3, sw, c1, Option.bind_some, if_pos (show (shC 3).1 = 10 by decide), x30, d1, Option.bind_some]
        rfl
      · funext k
        exact rC _ _ (by omega)
    · refine q_fin h (w := zI 1) (by decide) (v := zI 0) ?_ ?_
      · by_cases q2 : z < 0
        · rw [if_pos (by rw [c0]; exact q2)]; rfl
        · rw [if_neg (by rw [c0]; exact q2), if_neg (by rw [c2']; omega)]; rfl
      · rw [if_neg q, if_pos (by decide)]; rfl
