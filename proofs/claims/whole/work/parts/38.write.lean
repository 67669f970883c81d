/-! WRITE, OCTET, FEED -/
theorem Inv_gen {σC σM τC τM : Sto} (h : Inv σC σM) (hC : AgL σC τC) (hM : AmL σM τM) (hk : ∀ a, 75 ≤ a → a ≤ 98 → τC.1 a = σC.1 a) (h1 : Tp τC τM) (h2 : Wr τC τM) (h3 : Tq τC τM) (h4 : Mz τM) : Inv τC τM := by
  obtain ⟨⟨-, -, g3, g4⟩, -, -, l⟩ := h
  refine ⟨⟨h1, h2, ?_, ?_⟩, h3, h4, ?_⟩
  · unfold Tn at *
    rw [hC.2]
    exact g3
  · rw [hC.1 _ _ (by omega)]
    exact g4
  · rcases l with l | ⟨n, nb, t, h, ac, μ, un, l, c⟩
    · exact Or.inl (Ul_ag hC hM l)
    · exact Or.inr ⟨n, nb, t, h, ac, μ, un, Ld_ag hC hM l, Ca_ag hk c⟩
def AWc (σ τ : Sto) : Prop := (∀ a k, ¬ (a = 0 ∧ k = 15) → a ≠ 101 → τ.1 a k = σ.1 a k) ∧ τ.2 = σ.2
def BWm (σ τ : Sto) : Prop := (∀ a k, ¬ (a = 0 ∧ k = 46) → a ≠ 18 → τ.1 a k = σ.1 a k) ∧ τ.2 = σ.2
def WSt (σC σM τC τM : Sto) (m : Nat) : Prop := AWc σC τC ∧ BWm σM τM ∧ τC.1 0 15 = zI m ∧ τM.1 0 46 = zI m ∧ ∀ i, i < m → τC.1 101 i = τM.1 18 i
theorem Inv_w {σC σM τC τM : Sto} {m : Nat} (h : Inv σC σM) (hm : m ≤ 11) (w : WSt σC σM τC τM m) : Inv τC τM := by
  obtain ⟨hC, hM, w1, w2, w3⟩ := w
  have h' := h
  obtain ⟨⟨⟨m', t1, t2, t3, t4⟩, -, -, -⟩, ⟨q1, q2, q3⟩, ⟨z1, z2⟩, -⟩ := h'
  refine Inv_gen h ⟨fun a k q => hC.1 a k (by omega) (by omega), hC.2⟩ ⟨fun a k q => hM.1 a k (by omega) (by omega), hM.2⟩ (fun a h1 h2 => ?_) ⟨m', t1, ?_, ?_, fun i hi => ?_⟩ ⟨m, hm, w1, w2, w3⟩ ⟨?_, ?_, ?_⟩ ⟨?_, ?_⟩
  · funext k
    exact hC.1 a k (by omega) (by omega)
  · rw [hC.1 _ _ (by omega) (by omega)]; exact t2
  · rw [hM.1 _ _ (by omega) (by omega)]; exact t3
  · rw [hC.1 _ _ (by omega) (by omega), hM.1 _ _ (by omega) (by omega)]; exact t4 i hi
  · rw [hC.1 _ _ (by omega) (by omega), hM.1 _ _ (by omega) (by omega)]; exact q1
  · rw [hC.1 _ _ (by omega) (by omega), hM.1 _ _ (by omega) (by omega)]; exact q2
  · rw [hC.1 _ _ (by omega) (by omega), hC.1 _ _ (by omega) (by omega), hM.1 _ _ (by omega) (by omega)]; exact q3
  · rw [hM.1 _ _ (by omega) (by omega)]; exact z1
  · rw [hM.1 _ _ (by omega) (by omega)]; exact z2
theorem ws_put {σC σM τC τM : Sto} {m : Nat} (w : WSt σC σM τC τM m) (hm : m < 11) (x : Int32) : ∃ τC' τM', F_X11_putWritten τC x = some τC' ∧ F_X12_writes τM x = some τM' ∧ WSt σC σM τC' τM' (m + 1) := by
  obtain ⟨hC, hM, w1, w2, w3⟩ := w
  refine ⟨si (si τC 101 m x) 0 15 (zI (m + 1 : Nat)), si (si τM 18 m x) 0 46 (zI (m + 1 : Nat)), ?_, ?_, ⟨fun a k q1 q2 => ?_, hC.2⟩, ⟨fun a k q1 q2 => ?_, hM.2⟩, ?_, ?_, fun i hi => ?_⟩
  · unfold F_X11_putWritten
    rw [w1, if_neg (show ¬ 11 ≤ zI (m : Int) from by rw [show (11 : Int32) = zI 11 from by decide, zI_le (by omega) (by omega) (by omega) (by omega)]; omega), if_pos (show ib (zI (m : Int)) 11 from by rw [zI_ib (by omega) (by omega)]; omega), zI_ix (by omega) (by omega), sw, si_rd, if_neg (by omega), w1, zl1, zI_add]
    rfl
  · unfold F_X12_writes
    rw [w2, if_pos (show ib (zI (m : Int)) 12 from by rw [zI_ib (by omega) (by omega)]; omega), zI_ix (by omega) (by omega), sw, si_rd, if_neg (by omega), w2, zl1, zI_add]
    rfl
  · rw [si_rd, if_neg q1, si_rd, if_neg (by omega)]
    exact hC.1 a k q1 q2
  · rw [si_rd, if_neg q1, si_rd, if_neg (by omega)]
    exact hM.1 a k q1 q2
  · rw [si_rd, if_pos (by omega)]
  · rw [si_rd, if_pos (by omega)]
  · simp only [si_rd]
    by_cases q : i = m
    · simp [q]
    · simp [q]
      exact w3 i (by omega)
theorem w_loop {σC σM : Sto} {t n : Nat} {μ : Nat → Int} (l3 : σC.2.2 0 11 = some t) (T : tC t) (t4 : t = 102 ∨ t = 110) (hn : σC.1 t 0 = zI n) (h4 : n ≤ 4) (hy : ∀ s, s < n → σC.1 5 s = zI (μ (7 * s + 1)) ∧ 0 ≤ μ (7 * s + 1) ∧ μ (7 * s + 1) ≤ 20) (hm : MS σM μ n) : ∀ (d i kC kM m : Nat) (τC τM : Sto), i + d = n → d < kC → d < kM → WSt σC σM τC τM m → (m + 1 ≤ 3 * i ∨ m = 0) →
    ∃ v τC' τM' m', F_X11_write_20 kC τC (zI i) = some (v, si τC' 0 18 (zI 0)) ∧ F_X12_write_25 kM τM (zI i) = some (v, si (si τM' 0 1 (zI 0)) 0 2 (-1)) ∧ WSt σC σM τC' τM' m' ∧ m' ≤ 11 := by
  intro d
  induction d with
  | zero =>
    intro i kC kM m τC τM hi hc hk w hq
    obtain ⟨kC, rfl⟩ : ∃ j, kC = j + 1 := ⟨kC - 1, by omega⟩
    obtain ⟨kM, rfl⟩ : ∃ j, kM = j + 1 := ⟨kM - 1, by omega⟩
    obtain rfl : i = n := by omega
    have e1 : τC.1 t 0 = zI i := by rw [w.1.1 _ _ (by omega) (by omega)]; exact hn
    have e2 : τM.1 0 22 = zI i := by rw [w.2.1.1 _ _ (by omega) (by omega)]; exact hm.2
    refine ⟨zI m, τC, τM, m, ?_, ?_, w, by omega⟩
    · rw [F_X11_write_20, w.1.2, l3, Option.bind_some, if_pos T.1, e1, if_pos (Int32.le_refl _), w.2.2.1]
      rfl
    · rw [F_X12_write_25, e2, if_pos (Int32.le_refl _), w.2.2.2.1]
      rfl
  | succ d ih =>
    intro i kC kM m τC τM hi hc hk w hq
    obtain ⟨kC, rfl⟩ : ∃ j, kC = j + 1 := ⟨kC - 1, by omega⟩
    obtain ⟨kM, rfl⟩ : ∃ j, kM = j + 1 := ⟨kM - 1, by omega⟩
    have e1 : τC.1 t 0 = zI n := by rw [w.1.1 _ _ (by omega) (by omega)]; exact hn
    have e2 : τM.1 0 22 = zI n := by rw [w.2.1.1 _ _ (by omega) (by omega)]; exact hm.2
    have lt : ¬ zI (n : Int) ≤ zI (i : Int) := by rw [zI_le (by omega) (by omega) (by omega) (by omega)]; omega
    have hp := hy i (by omega)
    -- what follows the comma
    have rest : ∀ (m : Nat) (τC τM : Sto), WSt σC σM τC τM m → m ≤ 3 * i → ∃ v τC' τM' m', F_X11_write_41 (F_X11_write_20 kC) τC (zI i) = some (v, si τC' 0 18 (zI 0)) ∧ F_X12_write_43 (F_X12_write_25 kM) τM (zI i) = some (v, si (si τM' 0 1 (zI 0)) 0 2 (-1)) ∧ WSt σC σM τC' τM' m' ∧ m' ≤ 11 := by
      intro m τC τM w hq
      have last : ∀ (m : Nat) (τC τM : Sto), WSt σC σM τC τM m → m ≤ 3 * i + 1 → ∃ v τC' τM' m', F_X11_write_68 (F_X11_write_20 kC) τC (zI i) (zI (μ (7 * i + 1))) = some (v, si τC' 0 18 (zI 0)) ∧ F_X12_write_70 (F_X12_write_25 kM) τM (zI i) = some (v, si (si τM' 0 1 (zI 0)) 0 2 (-1)) ∧ WSt σC σM τC' τM' m' ∧ m' ≤ 11 := by
        intro m τC τM w hq
        obtain ⟨τC', τM', c1, c2, w'⟩ := ws_put w (by omega) (48 + (zI (μ (7 * i + 1)) - zI (μ (7 * i + 1)) / 10 * 10))
        have hm' : MS τM μ n := ⟨fun k hk => by rw [w.2.1.1 _ _ (by omega) (by omega)]; exact hm.1 k hk, by rw [w.2.1.1 _ _ (by omega) (by omega)]; exact hm.2⟩
        obtain ⟨v, a, b, m', r1, r2, r3⟩ := ih (i + 1) kC kM (m + 1) τC' τM' (by omega) (by omega) (by omega) w' (by omega)
        refine ⟨v, a, b, m', ?_, ?_, r3⟩
        · rw [F_X11_write_68, c1, Option.bind_some, zl1, zI_add]
          exact r1
        · rw [F_X12_write_70, m_of1 hm' (by omega), Option.bind_some, c2, Option.bind_some, zl1, zI_add]
          exact r2
      have hm' : MS τM μ n := ⟨fun k hk => by rw [w.2.1.1 _ _ (by omega) (by omega)]; exact hm.1 k hk, by rw [w.2.1.1 _ _ (by omega) (by omega)]; exact hm.2⟩
      have e5 : τC.1 5 i = zI (μ (7 * i + 1)) := by rw [w.1.1 _ _ (by omega) (by omega)]; exact hp.1
      rw [F_X11_write_41, F_X12_write_43, if_pos (show ib (zI (i : Int)) 4 from by rw [zI_ib (by omega) (by omega)]; omega), zI_ix (by omega) (by omega), Int.toNat_natCast, e5, m_of1 hm' (by omega), Option.bind_some, Option.bind_some]
      by_cases q : μ (7 * i + 1) < 10
      · rw [if_pos (show zI (μ (7 * i + 1)) < 10 from by rw [zl10, zI_lt (by omega) (by omega) (by omega) (by omega)]; exact q), if_pos (show zI (μ (7 * i + 1)) ≤ 9 from by rw [zl9, zI_le (by omega) (by omega) (by omega) (by omega)]; omega)]
        exact last m τC τM w (by omega)
      · rw [if_neg (show ¬ zI (μ (7 * i + 1)) < 10 from by rw [zl10, zI_lt (by omega) (by omega) (by omega) (by omega)]; exact q), if_neg (show ¬ zI (μ (7 * i + 1)) ≤ 9 from by rw [zl9, zI_le (by omega) (by omega) (by omega) (by omega)]; omega)]
        obtain ⟨τC', τM', c1, c2, w'⟩ := ws_put w (by omega) (48 + (zI (μ (7 * i + 1)) / 10))
        rw [c1, c2, Option.bind_some, Option.bind_some]
        exact last (m + 1) τC' τM' w' (by omega)
    rw [F_X11_write_20, F_X12_write_25, w.1.2, l3, Option.bind_some, if_pos T.1, e1, e2, if_neg lt, if_neg lt]
    by_cases q : i = 0
    · rw [if_pos (show zI (i : Int) ≤ 0 from by rw [zl0, zI_le (by omega) (by omega) (by omega) (by omega)]; omega), if_pos (show zI (i : Int) ≤ 0 from by rw [zl0, zI_le (by omega) (by omega) (by omega) (by omega)]; omega)]
      exact rest m τC τM w (by omega)
    · rw [if_neg (show ¬ zI (i : Int) ≤ 0 from by rw [zl0, zI_le (by omega) (by omega) (by omega) (by omega)]; omega), if_neg (show ¬ zI (i : Int) ≤ 0 from by rw [zl0, zI_le (by omega) (by omega) (by omega) (by omega)]; omega)]
      obtain ⟨τC', τM', c1, c2, w'⟩ := ws_put w (by omega) 44
      rw [c1, c2, Option.bind_some, Option.bind_some]
      exact rest (m + 1) τC' τM' w' (by omega)
theorem sp_write : Sp_write Inv := by
  intro σC σM h
  have h := Inv_0 h
  unfold F_X11_write F_X12_write
  simp only [sw]
  generalize si σM 0 0 0 = s1 at h ⊢
  rcases h.2.2.2 with ⟨u1, u2⟩ | ⟨n, nb, t, hd, ac, μ, un, ⟨⟨l1, l2, l3, l4⟩, ⟨g, g8, g9⟩, hm, ⟨hy, hyn⟩, ht, hb, hn, hk, hp, hi⟩, ca⟩
  · refine q_fin h (w := zI 1) (by decide) (v := zI (-1)) ?_ ?_
    · rw [if_pos u1]
      simp (disch := omega) only [↓reduceIte, and_self, true_and, and_true, false_and, and_false, Int.reduceEq, Int.reduceLT, Int.reduceLE, sw, Option.bind_some, zl0, zl1, zl2, zl3, zl4, zl5, zl6, zl7, zl8, zl9, zl10, zl20, zl21, zl28, zl33, zl34, zI_neg, zI_add, zI_sub, zI_mul, zI_lt, zI_le, zI_eq, zI_ib, zI_ix, if_pos, if_neg, F_X11_answer, F_X11_refuse, F_X12_tells, F_X12_refused, if_true, if_false]
    · rw [if_pos u2]
      simp (disch := omega) only [↓reduceIte, and_self, true_and, and_true, false_and, and_false, Int.reduceEq, Int.reduceLT, Int.reduceLE, sw, Option.bind_some, zl0, zl1, zl2, zl3, zl4, zl5, zl6, zl7, zl8, zl9, zl10, zl20, zl21, zl28, zl33, zl34, zI_neg, zI_add, zI_sub, zI_mul, zI_lt, zI_le, zI_eq, zI_ib, zI_ix, if_pos, if_neg, F_X11_answer, F_X11_refuse, F_X12_tells, F_X12_refused, if_true, if_false]
  · have T := tC_t l4
    have h4 := g.1.2.1
    rw [if_neg (show ¬ σC.1 0 13 = 0 by rw [l1]; decide), if_neg (show ¬ s1.1 0 25 = 0 by rw [l2]; decide)]
    have w0 : WSt σC s1 (si σC 0 15 0) (si s1 0 46 0) 0 := by
      refine ⟨⟨fun a k q1 q2 => ?_, rfl⟩, ⟨fun a k q1 q2 => ?_, rfl⟩, ?_, ?_, fun i hi => absurd hi (by omega)⟩
      · rw [si_rd, if_neg q1]
      · rw [si_rd, if_neg q1]
      · rw [si_rd, if_pos (by omega)]; rfl
      · rw [si_rd, if_pos (by omega)]; rfl
    obtain ⟨v, τC, τM, m, r1, r2, w, hm'⟩ := w_loop l3 T l4 ht.1.1 h4 (y_fr hy g) hm n 0 FU FU 0 _ _ (by omega) (FU_lt (by omega)) (FU_lt (by omega)) w0 (by omega)
    exact ⟨v, _, _, r1, r2, Inv_q (Inv_w h hm' w) (AgM_rfl _) (by decide)⟩
theorem sp_octet : Sp_octet Inv := by
  intro σC σM i h
  obtain ⟨z, hz1, hz2, rfl⟩ := zI_of i
  obtain ⟨m, m1, w1, w2, w3⟩ := h.1.2.1
  have h0 : ∀ x, Inv σC (si σM 0 0 x) := by
    intro x
    have hM : AgM σM (si σM 0 0 x) := AgM_si _ 0 0 _ (by omega)
    obtain ⟨g, q, zz, l⟩ := h
    refine ⟨Gl_ag (AgC_rfl _) hM g, ?_, Mz_ag hM zz, ?_⟩
    · unfold Tq at *
      simp only [si_rd]
      simp
      exact q
    · rcases l with l | ⟨n, nb, t, h, ac, μ, un, l, c⟩
      · exact Or.inl (Ul_ag (AgC_l (AgC_rfl _)) (AgM_l hM) l)
      · exact Or.inr ⟨n, nb, t, h, ac, μ, un, Ld_ag (AgC_l (AgC_rfl _)) (AgM_l hM) l, c⟩
  have e : F_X12_in σM (zI z) 0 (zI m - 1) = some (if 0 ≤ z ∧ z ≤ (m : Int) - 1 then zI 1 else zI 0) := by
    rw [zl1, zI_sub]
    exact m_in σM ⟨hz1, hz2⟩ (b := 0) (by omega) (by omega)
  have c0 : (zI z < 0) = (z < 0) := zI_lt (b := 0) (by omega) (by omega) (by omega) (by omega)
  have c1 : (zI z < zI m) = (z < m) := zI_lt (by omega) (by omega) (by omega) (by omega)
  unfold F_X11_octet F_X12_octet
  rw [w1, w2, e, Option.bind_some]
  by_cases q : 0 ≤ z ∧ z ≤ (m : Int) - 1
  · refine ⟨some (σC.1 101 z.toNat), (σM.1 18 z.toNat, si σM 0 0 0), 0, ?_, ?_, ?_, Or.inr ⟨?_, rfl⟩, h0 0⟩
    · rw [if_neg (by rw [c0]; omega), if_pos (by rw [c1]; omega), if_pos (show ib (zI z) 11 from by rw [zI_ib (by omega) (by omega)]; omega), zI_ix (by omega) (by omega)]
    · rw [if_pos q, if_neg (by decide), F_X12_octet_20, sw, if_neg (show ¬ (si σM 0 0 0).1 0 0 = 1 from by rw [si_rd, if_pos ⟨rfl, rfl⟩]; decide), if_pos (show ib (zI z) 12 from by rw [zI_ib (by omega) (by omega)]; omega), zI_ix (by omega) (by omega), si_rd, if_neg (by omega)]
    · unfold F_X12_thrown
      rw [si_rd, if_pos (by omega)]
    · rw [w3 z.toNat (by omega)]
  · refine ⟨none, (0, si σM 0 0 1), 1, ?_, ?_, ?_, Or.inl ⟨rfl, rfl⟩, h0 1⟩
    · by_cases q2 : z < 0
      · rw [if_pos (by rw [c0]; exact q2)]
      · rw [if_neg (by rw [c0]; exact q2), if_neg (by rw [c1]; omega)]
    · rw [if_neg q, if_pos (by decide), F_X12_octet_20, sw, if_pos (show (si σM 0 0 1).1 0 0 = 1 from by rw [si_rd, if_pos ⟨rfl, rfl⟩])]
    · unfold F_X12_thrown
      rw [si_rd, if_pos (by omega)]
