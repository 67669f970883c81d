/-! BACK -/
theorem m_back {σ : Sto} {A : Nat} (hA : A < 2) : ∀ (d j k : Nat) (τ : Sto), j + d = 534 → d < k → (∀ a i, a ≠ 2 → τ.1 a i = σ.1 a i) → τ.2 = σ.2 → (∀ i, τ.1 2 i = if i < j then σ.1 6 (534 * A + i) else σ.1 2 i) → ∃ υ, F_X12_back_38 k τ (zI A) (zI j) = some (zI 1, si (si υ 0 1 (zI 0)) 0 2 (-1)) ∧ (∀ a i, a ≠ 2 → ¬ (a = 0 ∧ i = 24) → υ.1 a i = σ.1 a i) ∧ υ.2 = σ.2 ∧ υ.1 0 24 = zI 0 ∧ ∀ i, i < 534 → υ.1 2 i = σ.1 6 (534 * A + i) := by
  intro d
  induction d with
  | zero =>
    intro j k τ hj hk h1 h2 h3
    obtain ⟨k, rfl⟩ : ∃ j, k = j + 1 := ⟨k - 1, by omega⟩
    obtain rfl : j = 534 := by omega
    refine ⟨si τ 0 24 0, ?_, fun a i q1 q2 => ?_, h2, ?_, fun i hi => ?_⟩
    · rw [F_X12_back_38, if_pos (by decide)]
      rfl
    · rw [si_rd, if_neg q2]; exact h1 a i q1
    · rw [si_rd, if_pos ⟨rfl, rfl⟩]; rfl
    · rw [si_rd, if_neg (by omega), h3 i, if_pos hi]
  | succ d ih =>
    intro j k τ hj hk h1 h2 h3
    obtain ⟨k, rfl⟩ : ∃ j, k = j + 1 := ⟨k - 1, by omega⟩
    obtain ⟨υ, e, r⟩ := ih (j + 1) k (si τ 2 j (σ.1 6 (534 * A + j))) (by omega) (by omega) (fun a i q => by rw [si_rd, if_neg (by omega)]; exact h1 a i q) h2 (fun i => by
      rw [si_rd]
      by_cases q : i = j
      · rw [if_pos ⟨rfl, q⟩, if_pos (by omega), q]
      · rw [if_neg (by omega), h3 i]
        by_cases q2 : i < j
        · rw [if_pos q2, if_pos (by omega)]
        · rw [if_neg q2, if_neg (by omega)])
    refine ⟨υ, ?_, r⟩
    rw [F_X12_back_38, if_neg (show ¬ 534 ≤ zI (j : Int) from by rw [show (534 : Int32) = zI 534 from by decide, zI_le (by omega) (by omega) (by omega) (by omega)]; omega), show (534 : Int32) = zI 534 from by decide, zI_mul, zI_add, if_pos (show ib (zI (534 * (A : Int) + j)) 1068 from by rw [zI_ib (by omega) (by omega)]; omega), if_pos (show ib (zI (j : Int)) 534 from by rw [zI_ib (by omega) (by omega)]; omega), zI_ix (by omega) (by omega), zI_ix (by omega) (by omega), sw, h1 6 _ (by omega), Int.toNat_natCast, show (534 * (A : Int) + j).toNat = 534 * A + j by omega, zl1, zI_add]
    exact e
theorem sp_back : Sp_back Inv := by
  intro σC σM i h
  have h := Inv_0 h
  obtain ⟨z, hz1, hz2, rfl⟩ := zI_of i
  unfold F_X11_back F_X12_back F_X11_back_28 F_X12_back_30
  rw [sw]
  generalize si σM 0 0 0 = s1 at h ⊢
  rcases h.2.2.2 with ⟨u1, u2⟩ | ⟨n, nb, t, hd, ac, μ, un, ⟨⟨l1, l2, l3, l4⟩, ⟨g, g8, g9⟩, hm, ⟨hy, hyn⟩, ht, hb, hn, hk, hp, hi⟩, ca⟩
  · refine q_fin h (w := zI 1) (by decide) (v := zI 0) ?_ ?_
    · rw [if_pos u1]; rfl
    · rw [if_pos u2]; rfl
  · have h4 := g.1.2.1
    have t4 := l4
    rw [if_neg (show ¬ σC.1 0 13 = 0 by rw [l1]; decide), if_neg (show ¬ s1.1 0 25 = 0 by rw [l2]; decide)]
    have mI : F_X12_in s1 (zI z) 0 1 = some (if 0 ≤ z ∧ z ≤ 1 then zI 1 else zI 0) := m_in s1 ⟨hz1, hz2⟩ (b := 0) (c := 1) (by omega) (by omega)
    have c0 : (zI z < 0) = (z < 0) := zI_lt (b := 0) (by omega) (by omega) (by omega) (by omega)
    have c2' : (2 ≤ zI z) = (2 ≤ z) := zI_le (a := 2) (by omega) (by omega) (by omega) (by omega)
    rw [mI, Option.bind_some]
    by_cases q : 0 ≤ z ∧ z ≤ 1
    · obtain ⟨A, rfl⟩ : ∃ A : Nat, z = A := ⟨z.toNat, by omega⟩
      have hA : A < 2 := by omega
      obtain ⟨s3, s10, s0⟩ := shC_im hA
      have ib2 : ib (zI (A : Int)) 2 := by rw [zI_ib (by omega) (by omega)]; omega
      rw [if_pos q, if_neg (show ¬ zI 1 = 0 by decide), if_neg (by rw [c0]; omega), if_neg (by rw [c2']; omega), if_pos ib2, if_pos ib2, zI_ix (by omega) (by omega), Int.toNat_natCast]
      rcases hi A hA with ⟨i1, i2⟩ | ⟨i1, i2, P, ⟨j1, j2, j3, j4, j5, j6⟩, j7⟩
      · refine q_fin h (w := zI 1) (by decide) (v := zI 0) ?_ ?_
        · rw [if_pos i1]; rfl
        · rw [if_pos i2]; rfl
      · rw [if_neg (show ¬ σC.1 (118 + 8 * A) 0 = 0 by rw [i1]; decide), if_neg (show ¬ s1.1 9 A = 0 by rw [i2]; decide)]
        rw [show 119 + 8 * A = 118 + 8 * A + 1 by omega] at j2 j3
        obtain ⟨x, c1, c2, c3, c4, c5, c6⟩ := y_copy (σ := σC) (a0 := 3) (a1 := 118 + 8 * A + 1) (by decide) s10 (by omega)
        have x30 : x.1 (118 + 8 * A + 1) 0 = zI ((P 32).toNat : Int) := by rw [c2 _ _ (by omega), j3, show (((P 32).toNat : Nat) : Int) = P 32 by omega]
        obtain ⟨y, d1, d2, d3, d4⟩ := b_copy (σ := x) (a0 := 8) (a1 := 118 + 8 * A + 6) (N := (P 32).toNat) (by decide) s0 (by omega)
        obtain ⟨w, f0, f1, f2, f3⟩ := c_forget (si y 10 2 0)
        obtain ⟨υ, m1, m2, m3, m4, m5⟩ := m_back (σ := s1) (A := A) hA 534 0 FU s1 (by omega) (FU_lt (by omega)) (fun _ _ _ => rfl) rfl (fun i => by rw [if_neg (by omega)])
        have r0 : ∀ a k, (a < 75 ∨ 98 < a) → ¬ (a = 10 ∧ k = 2) → w.1 a k = y.1 a k := fun a k q1 q2 => by rw [f1 a k q1, si_rd, if_neg q2]
        have rx : ∀ a k, a < 9 → w.1 a k = x.1 a k := fun a k q1 => by rw [r0 a k (by omega) (by omega)]; exact d2 a k (by omega)
        have rC : ∀ a k, (a < 3 ∨ a = 8 ∨ (9 < a ∧ a < 75) ∨ 98 < a) → ¬ (a = 10 ∧ k = 2) → w.1 a k = σC.1 a k := fun a k q1 q2 => by rw [r0 a k (by omega) q2, d2 a k (by omega), c2 a k (by omega)]
        have fy2 : w.2 = σC.2 := f2.trans (d3.trans c3)
        have L : Ld w υ n nb t hd 0 P un := by
          obtain ⟨p1, p2, p3, p4, p5, p6⟩ := hp
          refine ⟨?_, ⟨⟨⟨g.1.1, h4, by omega⟩, GdT_sT j6 g.2.1, j4⟩, j5⟩, ⟨fun k hk' => ?_, ?_⟩, ⟨⟨fun s hs => ⟨?_, ?_, ?_⟩, fun r hr => ?_, ?_⟩, ?_⟩, TR_sT j6 ?_, ?_, ?_, fun b hb' => ?_, ⟨by omega, p2, ?_, ?_, m4, fun i hi => absurd hi (by omega), fun i j hij hj => absurd hj (by omega)⟩, ?_⟩
          · rw [rC _ _ (by omega) (by omega), m2 _ _ (by omega) (by omega), fy2]; exact ⟨l1, l2, l3, l4⟩
          · rw [m5 k (by omega)]; exact j1 k hk'
          · rw [m2 _ _ (by omega) (by omega)]; exact hm.2
          · rw [rx _ _ (by omega), c6 1 (by omega) (by omega) s (by omega)]; exact (j2.1 s hs).1
          · rw [rx _ _ (by omega), c6 2 (by omega) (by omega) s (by omega)]; exact (j2.1 s hs).2.1
          · rw [rx _ _ (by omega), c6 3 (by omega) (by omega) s (by omega)]; exact (j2.1 s hs).2.2
          · rw [rx _ _ (by omega), c6 4 (by omega) (by omega) r (by omega)]; exact j2.2.1 r hr
          · rw [rx _ _ (by omega), c5]; exact j2.2.2
          · rw [rx _ _ (by omega), c4]; exact j3
          · unfold TR TV at *
            simp (disch := omega) only [rC]
            exact ht
          · unfold By at *
            simp (disch := omega) only [rC, m2]
            exact hb
          · unfold Nm at *
            rw [fy2, m3]
            exact hn
          · have kk := j7 b hb'
            have e5 : ∀ j, j < 5 → υ.1 2 (34 + 5 * b + j) = s1.1 6 (534 * A + 34 + 5 * b + j) := fun j hj => by rw [m5 _ (by omega), show 534 * A + (34 + 5 * b + j) = 534 * A + 34 + 5 * b + j by omega]
            have e7 : ∀ j, j < 4 → w.1 9 (4 * b + j) = σC.1 (125 + 8 * A) (4 * b + j) := fun j hj => by
              rw [r0 _ _ (by omega) (by omega)]
              have := d4 (4 * b + j)
              rw [if_pos (by omega), c2 _ _ (by omega), show 118 + 8 * A + 6 + 1 = 125 + 8 * A by omega] at this
              exact this
            refine ⟨fun j hj => ?_, ?_⟩
            · rw [e5 j (by omega), e7 j hj]; exact kk.1 j hj
            · have e8 := e7 0 (by omega)
              rw [Nat.add_zero] at e8
              rw [e5 4 (by omega), e7 1 (by omega), e8]
              exact kk.2
          · rw [rC _ _ (by omega) (by omega)]; exact p3
          · rw [f1 _ _ (by omega), si_rd, if_pos ⟨rfl, rfl⟩]; rfl
          · intro i hi'
            rcases hi i hi' with ⟨i1, i2⟩ | ⟨i1, i2, Q, ⟨k1, k2, k3, k4, k5, k6⟩, k7⟩
            · exact Or.inl ⟨by rw [rC _ _ (by omega) (by omega)]; exact i1, by rw [m2 _ _ (by omega) (by omega)]; exact i2⟩
            · refine Or.inr ⟨by rw [rC _ _ (by omega) (by omega)]; exact i1, by rw [m2 _ _ (by omega) (by omega)]; exact i2, Q, ⟨fun k hk' => ?_, ?_, ?_, k4, k5, sT_tr k6 (sT_sym j6)⟩, ?_⟩
              · rw [m2 _ _ (by omega) (by omega)]; exact k1 k hk'
              · unfold YR at *
                simp (disch := omega) only [rC]
                exact k2
              · rw [rC _ _ (by omega) (by omega)]; exact k3
              · unfold Bk at *
                simp (disch := omega) only [rC, m2]
                exact k7
        refine ⟨zI 1, si w 0 18 (zI 0), _, ?_, m1, Inv_act h ⟨fun b i q => rC _ _ (by omega) (by omega), fy2⟩ (fun b i q => m2 _ _ (by omega) (by omega)) L (f3 _ _ _ _)⟩
        rw [F_X3_give, if_pos s3, if_pos (show (shC 3).1 = 10 by decide), c1, Option.bind_some, if_pos (show (shC 8).1 = 0 by decide), x30, d1, Option.bind_some, Option.bind_some, F_X5_clear, sw, Option.bind_some, f0]
        rfl
    · refine q_fin h (w := zI 1) (by decide) (v := zI 0) ?_ ?_
      · by_cases q2 : z < 0
        · rw [if_pos (by rw [c0]; exact q2)]; rfl
        · rw [if_neg (by rw [c0]; exact q2), if_pos (by rw [c2']; omega)]; rfl
      · rw [if_neg q, if_pos (by decide)]; rfl
