/-! PATH AND REACH -/
theorem m_same {σ : Sto} {μ : Nat → Int} {n c : Nat} (h : MS σ μ n) (g : Gd μ n c) : ∃ v : Int32, F_X12_isSame σ = some v ∧ ((v = 1 ∧ ∀ s, s < n → μ (7 * s + 1) = μ (7 * s)) ∨ (v = 0 ∧ ∃ s, s < n ∧ μ (7 * s + 1) ≠ μ (7 * s))) := by
  have h4 := g.1.2.1
  have key : ∀ (m s k : Nat) (v : Int32), s + m = n → m < k → ((v = 1 ∧ ∀ u, u < s → μ (7 * u + 1) = μ (7 * u)) ∨ (v = 0 ∧ ∃ u, u < s ∧ μ (7 * u + 1) ≠ μ (7 * u))) → ∃ v' : Int32, F_X12_isSame_4 k σ v (zI s) = some v' ∧ ((v' = 1 ∧ ∀ s, s < n → μ (7 * s + 1) = μ (7 * s)) ∨ (v' = 0 ∧ ∃ s, s < n ∧ μ (7 * s + 1) ≠ μ (7 * s))) := by
    intro m
    induction m with
    | zero =>
      intro s k v h1 h2 hv
      obtain ⟨k, rfl⟩ : ∃ j, k = j + 1 := ⟨k - 1, by omega⟩
      have e : s = n := h1
      subst e
      exact ⟨v, by rw [F_X12_isSame_4, h.2, if_pos (zleT (by omega)), if_pos (by rcases hv with q | q; exact Or.inr q.1; exact Or.inl q.1)], hv⟩
    | succ m ih =>
      intro s k v h1 h2 hv
      obtain ⟨k, rfl⟩ : ∃ j, k = j + 1 := ⟨k - 1, by omega⟩
      have a := g.2.2.1 s (by omega)
      rw [F_X12_isSame_4, h.2, if_neg (zleF (by omega)), zI_s1, m_of1 h (by omega), m_of0 h (by omega), Option.bind_some, Option.bind_some]
      rcases hv with ⟨v1, hv⟩ | ⟨v1, u, u1, u2⟩
      · rw [v1, if_neg (by decide)]
        by_cases q : μ (7 * s + 1) = μ (7 * s)
        · rw [if_pos (by rw [q])]
          refine ih (s + 1) k 1 (by omega) (by omega) (Or.inl ⟨rfl, fun u hu => ?_⟩)
          by_cases e : u = s
          · rw [e]; exact q
          · exact hv u (by omega)
        · rw [if_neg (by rw [zI_eq (by omega) (by omega) (by omega) (by omega)]; exact q)]
          exact ih (s + 1) k 0 (by omega) (by omega) (Or.inr ⟨rfl, s, by omega, q⟩)
      · rw [v1, if_pos rfl]
        exact ih (s + 1) k 0 (by omega) (by omega) (Or.inr ⟨rfl, u, by omega, u2⟩)
  exact key n 0 FU 1 (by omega) (FU_lt (by omega)) (Or.inl ⟨rfl, fun u hu => by omega⟩)
/-- one year of the reference's path -/
theorem m_yr {s1 τ : Sto} {n nb c k : Nat} {μ : Nat → Int} {un : Nat → Nat → Int} (p : PpF s1 τ) (u : UnM s1 n nb un) (h : MS τ (ah μ n k) n) (g : Gd (ah μ n k) n c) (hc : c + 1 ≤ 120) : ∃ x3 x4 x7 : Sto, ∃ v6 : Int32, F_X12_finds τ 0 = some (zI (vl n (prw μ) (bR (ah μ n k) n)), x3) ∧ F_X12_takesRow x3 = some x4 ∧ F_X12_all x4 1 = some (zI (vl n (gow μ) (bR (ah μ n k) n))) ∧ F_X12_isSame x4 = some v6 ∧ ((v6 = 1 ∧ ∀ s, s < n → bR (ah μ n k) n s = ah μ n k (7 * s)) ∨ (v6 = 0 ∧ ¬ ∀ s, s < n → bR (ah μ n k) n s = ah μ n k (7 * s))) ∧ F_X12_ends x4 = some x7 ∧ PpF s1 x7 ∧ MS x7 (ah μ n (k + 1)) n ∧ ¬ zI (vl n (prw μ) (bR (ah μ n k) n)) ≤ -100000000 := by
  have h4 := g.1.2.1
  have st := ah_sT (μ := μ) h4 k
  have ev : vl n (prw (ah μ n k)) (bR (ah μ n k) n) = vl n (prw μ) (bR (ah μ n k) n) := vl_eq (EqN_prw st) _
  obtain ⟨x3, a1, a2, a3, a4, a5⟩ := m_bestP h g (PpF_u p u)
  have h3 : MS x3 (ah μ n k) n := MS_ag (AgM_l (MfF_ag a2)) h
  obtain ⟨x4, b1, b2, b3, b4, b5⟩ := m_takes h4 h3 a3
  have gl := lay1_Gd g (bR_bd g)
  have h5 : MS x4 (lay1 (ah μ n k) n (bR (ah μ n k) n)) n := ⟨b2, by rw [b3 0 22 (by omega)]; exact h3.2⟩
  obtain ⟨v6, c1, c2⟩ := m_same h5 gl
  obtain ⟨x7, d1, d2, d3, d4⟩ := m_ends h5 gl
  refine ⟨x3, x4, x7, v6, by rw [a1, ev], b1, ?_, c1, ?_, d1, PpF_2 (PpF_2 (PpF_m p a2) b3 b5) d3 d4, d2, by rw [zLst, ← ev]; exact zleF (by omega)⟩
  · rw [m_allG h5 gl]
    congr 2
    refine sz_cg (fun s hs => ?_)
    rw [lay1_1 hs, go_sT (sT_tr (EqN_sT (lay1_N _ h4 _)) st) hs]
    rfl
  · rcases c2 with ⟨c2, c3⟩ | ⟨c2, s, c3, c4⟩
    · refine Or.inl ⟨c2, fun s hs => ?_⟩
      have := c3 s hs
      rw [lay1_1 hs, lay1_o (by omega)] at this
      exact this
    · refine Or.inr ⟨c2, fun h => c4 ?_⟩
      rw [lay1_1 c3, lay1_o (by omega)]
      exact h s c3
noncomputable def paW (μ : Nat → Int) (n N j : Nat) : Int := if j = 0 then paP μ n N else if j = 1 then paG μ n N else if j = 2 then of1 (ah μ n N) n 0 else paO μ n N
theorem m_path {s1 : Sto} {n nb c N j : Nat} {μ : Nat → Int} {un : Nat → Nat → Int} (u : UnM s1 n nb un) (g : Gd μ n c) (hc : c + 8 ≤ 120) (hN : N ≤ 8) (hj : j ≤ 3) : ∀ (d k f : Nat) (τ : Sto), k + d = N → d < f → PpF s1 τ → MS τ (ah μ n k) n → ∃ υ, F_X12_path_58 f τ (zI N) (zI j) (zI (paP μ n k)) (zI (paG μ n k)) (zI (paO μ n k)) (zI k) = some (zI (paW μ n N j), si (si υ 0 1 0) 0 2 (-1)) ∧ AgM s1 υ := by
  intro d
  induction d with
  | zero =>
    intro k f τ k1 k2 p h
    obtain ⟨f, rfl⟩ : ∃ i, f = i + 1 := ⟨f - 1, by omega⟩
    have e : k = N := k1
    subst e
    obtain ⟨x2, b1, b2, -⟩ := m_backP p
    refine ⟨x2, ?_, b2⟩
    have mo := m_off (w := 0) h (ah_Gd g k (by omega)) (Or.inl rfl)
    have mo' : F_X12_off τ 0 = some (zI (of1 (ah μ n k) n 0)) := mo
    rw [F_X12_path_58, if_pos (zleT (by omega)), mo', Option.bind_some, b1, Option.bind_some]
    unfold paW
    rcases (show j = 0 ∨ j = 1 ∨ j = 2 ∨ j = 3 by omega) with rfl | rfl | rfl | rfl
    · rfl
    · rfl
    · rfl
    · rfl
  | succ d ih =>
    intro k f τ k1 k2 p h
    obtain ⟨f, rfl⟩ : ∃ i, f = i + 1 := ⟨f - 1, by omega⟩
    obtain ⟨x3, x4, x7, v6, a1, a2, a3, a4, a5, a6, a7, a8, -⟩ := m_yr p u h (ah_Gd g k (by omega)) (by omega)
    obtain ⟨υ, i1, i2⟩ := ih (k + 1) f x7 (by omega) (by omega) a7 a8
    refine ⟨υ, ?_, i2⟩
    rw [← i1, F_X12_path_58, if_neg (zleF (by omega)), a1, Option.bind_some, a2, Option.bind_some, a3, Option.bind_some, a4, Option.bind_some, zI_add, zI_add]
    rcases a5 with ⟨v1, hv⟩ | ⟨v1, hv⟩
    · rw [v1, if_neg (by decide)]
      unfold F_X12_path_100
      rw [a6, Option.bind_some, zI_s1, zl0, zI_add]
      rw [paP, paG, paO, if_pos hv]
    · rw [v1, if_pos rfl]
      unfold F_X12_path_100
      rw [a6, Option.bind_some, zI_s1, zl1, zI_add]
      rw [paP, paG, paO, if_neg hv]
theorem sp_path : Sp_path Inv := by
  intro σC σM i j h
  have h := Inv_0 h
  obtain ⟨z, hz1, hz2, rfl⟩ := zI_of i
  obtain ⟨w, hw1, hw2, rfl⟩ := zI_of j
  unfold F_X11_path F_X12_path
  rw [sw]
  generalize si σM 0 0 0 = s1 at h ⊢
  rcases h.2.2.2 with ⟨u1, u2⟩ | ⟨n, nb, t, hd, ac, μ, un, l, ca⟩
  · refine q_fin h (w := 1) (by decide) (v := -1) ?_ ?_
    · rw [if_pos u1]; rfl
    · rw [if_pos u2]; rfl
  · have l0 := l
    obtain ⟨⟨l1, l2, l3, l4⟩, ⟨g, g8, g9⟩, hm, ⟨hy, hyn⟩, ht, hb, -⟩ := l0
    have mw : F_X12_in s1 (zI w) 0 3 = some (if 0 ≤ w ∧ w ≤ 3 then zI 1 else zI 0) := m_in s1 ⟨hw1, hw2⟩ (b := 0) (c := 3) (by omega) (by omega)
    have mz : F_X12_in s1 (zI z) 1 8 = some (if 1 ≤ z ∧ z ≤ 8 then zI 1 else zI 0) := m_in s1 ⟨hz1, hz2⟩ (b := 1) (c := 8) (by omega) (by omega)
    rw [if_neg (show ¬ σC.1 0 13 = 0 by rw [l1]; decide), if_neg (show ¬ s1.1 0 25 = 0 by rw [l2]; decide), mw, Option.bind_some, mz, Option.bind_some]
    by_cases q : 0 ≤ w ∧ w ≤ 3
    · rw [if_neg (zlt0F (by omega)), show (3 : Int32) = zI 3 from by decide, if_pos (zleT (by omega)), if_pos q, if_neg (show ¬ zI 1 = 0 by decide)]
      by_cases q2 : 1 ≤ z ∧ z ≤ 8
      · obtain ⟨j, rfl⟩ : ∃ j : Nat, w = j := ⟨w.toNat, by omega⟩
        obtain ⟨N, rfl⟩ : ∃ N : Nat, z = N := ⟨z.toNat, by omega⟩
        rw [if_pos q2, if_neg (show ¬ zI 1 = 0 by decide), if_neg (show ¬ zI (N : Int) < 1 from by rw [zl1]; exact zltF (by omega)), if_pos (show zI (N : Int) ≤ 8 from by rw [zl8]; exact zleT (by omega)), l3, Option.bind_some]
        obtain ⟨τC, a1, a2, a3, a4⟩ := c_walk (m := N) l ca (by omega)
        obtain ⟨x1, b1, b2, b3⟩ := m_aside s1
        obtain ⟨υ, c1, c2⟩ := m_path (N := N) (j := j) (UnM_l l h.2.2.1) g (by omega) (by omega) (by omega) N 0 FU x1 (by omega) (FU_lt (by omega)) b2 ⟨fun k hk => by rw [b3 2 k (by omega)]; exact hm.1 k hk, by rw [b3 0 22 (by omega)]; exact hm.2⟩
        refine f_fin h l a2 c2 a3 (w := 0) (by decide) (v := zI (paW μ n N j)) ?_ ?_
        · rw [a1, Option.bind_some]
          simp (disch := omega) only [zl4, zI_mul, zI_add, zI_ib, zI_ix]
          rw [if_pos (by omega), show ((N : Int) * 4 + j).toNat = 4 * N + j by omega]
          have e : τC.1 97 (4 * N + j) = zI (paW μ n N j) := by
            unfold paW
            rcases (show j = 0 ∨ j = 1 ∨ j = 2 ∨ j = 3 by omega) with rfl | rfl | rfl | rfl
            · exact a4.1
            · exact a4.2.1
            · exact a4.2.2.1
            · exact a4.2.2.2
          rw [e]; rfl
        · rw [b1, Option.bind_some]
          exact c1
      · refine q_fin h (w := 2) (by decide) (v := -1) ?_ ?_
        · by_cases q3 : z < 1
          · rw [if_pos (show zI z < 1 from by rw [zl1]; exact zltT (by omega))]; rfl
          · rw [if_neg (show ¬ zI z < 1 from by rw [zl1]; exact zltF (by omega)), if_neg (show ¬ zI z ≤ 8 from by rw [zl8]; exact zleF (by omega))]; rfl
        · rw [if_neg q2, if_pos (show zI 0 = 0 by decide)]; rfl
    · refine q_fin h (w := 1) (by decide) (v := -1) ?_ ?_
      · by_cases q3 : w < 0
        · rw [if_pos (show zI w < 0 from by rw [zl0]; exact zltT (by omega))]; rfl
        · rw [if_neg (zlt0F (by omega)), if_neg (show ¬ zI w ≤ 3 from by rw [zl3]; exact zleF (by omega))]; rfl
      · rw [if_neg q, if_pos (show zI 0 = 0 by decide)]; rfl
/-- the first year that is near enough -/
noncomputable def rcH (μ : Nat → Int) (n : Nat) (v : Int) : Nat → Nat → Int
  | 0, _ => -2
  | d + 1, i => if of1 (ah μ n i) n 0 ≤ v then i else rcH μ n v d (i + 1)
theorem c_reach {σ σM : Sto} {n nb t hd ac : Nat} {μ : Nat → Int} {un : Nat → Nat → Int} {v : Int} (l : Ld σ σM n nb t hd ac μ un) (hv : 0 ≤ v ∧ v ≤ 80) : ∀ (d i f : Nat) (τ : Sto), i + d = 9 → d < f → AgC σ τ → Ca τ n nb μ un → ∃ υ, F_X11_reach_31 f τ (zI v) (zI i) = some (zI (rcH μ n v d i), si υ 0 18 0) ∧ AgC σ υ ∧ Ca υ n nb μ un := by
  intro d
  induction d with
  | zero =>
    intro i f τ k1 k2 a c
    obtain ⟨f, rfl⟩ : ∃ i, f = i + 1 := ⟨f - 1, by omega⟩
    refine ⟨τ, ?_, a, c⟩
    rw [F_X11_reach_31, zl8, if_pos (zltT (by omega))]; rfl
  | succ d ih =>
    intro i f τ k1 k2 a c
    obtain ⟨f, rfl⟩ : ∃ i, f = i + 1 := ⟨f - 1, by omega⟩
    have lt : Ld τ σM n nb t hd ac μ un := Ld_ag (AgC_l a) (AgM_l (AgM_rfl σM)) l
    obtain ⟨x3, b1, b2, b3, b4⟩ := c_walk (m := i) lt c (by omega)
    have ob := of_bd (ah_Gd l.2.1.1 i (by have := l.2.1; omega))
    rw [F_X11_reach_31, zl8, if_neg (zltF (by omega)), lt.1.2.2.1, Option.bind_some, b1, Option.bind_some]
    simp (disch := omega) only [zl4, zl2, zI_mul, zI_add, zI_ib, zI_ix]
    rw [if_pos (by omega), show ((i : Int) * 4 + 2).toNat = 4 * i + 2 by omega, b4.2.2.1, rcH]
    by_cases q : of1 (ah μ n i) n 0 ≤ v
    · rw [if_neg (zltF (by omega)), if_pos q]
      exact ⟨x3, rfl, AgC_tr a b2, b3⟩
    · rw [if_pos (zltT (by omega)), if_neg q, zI_s1]
      exact ih (i + 1) f x3 (by omega) (by omega) (AgC_tr a b2) b3
theorem m_reach {s1 : Sto} {n nb c : Nat} {μ : Nat → Int} {un : Nat → Nat → Int} {v : Int} (u : UnM s1 n nb un) (g : Gd μ n c) (hc : c + 9 ≤ 120) (hv : 0 ≤ v ∧ v ≤ 80) : ∀ (d i f : Nat) (τ : Sto), i + d = 9 → d + 1 < f → PpF s1 τ → MS τ (ah μ n i) n → ∃ υ, F_X12_reach_43 f τ (zI v) (-2) (zI i) = some (zI (rcH μ n v d i), si (si υ 0 1 0) 0 2 (-1)) ∧ AgM s1 υ := by
  have e95 : ∀ (τ : Sto) (x : Int32), PpF s1 τ → ∃ υ, F_X12_reach_95 τ x = some (x, si (si υ 0 1 0) 0 2 (-1)) ∧ AgM s1 υ := by
    intro τ x p
    obtain ⟨x2, b1, b2, -⟩ := m_backP p
    refine ⟨x2, ?_, b2⟩
    unfold F_X12_reach_95
    rw [b1, Option.bind_some]; rfl
  intro d
  induction d with
  | zero =>
    intro i f τ k1 k2 p h
    obtain ⟨f, rfl⟩ : ∃ i, f = i + 1 := ⟨f - 1, by omega⟩
    rw [F_X12_reach_43, zl8, if_pos (zltT (by omega))]
    exact e95 τ (-2) p
  | succ d ih =>
    intro i f τ k1 k2 p h
    obtain ⟨f, rfl⟩ : ∃ i, f = i + 1 := ⟨f - 1, by omega⟩
    have gi := ah_Gd g i (by omega)
    have ob := of_bd gi
    obtain ⟨x3, x4, x7, v6, a1, a2, -, -, -, a6, a7, a8, a9⟩ := m_yr p u h gi (by omega)
    have mo' : F_X12_off τ 0 = some (zI (of1 (ah μ n i) n 0)) := m_off (w := 0) h gi (Or.inl rfl)
    have st : ∀ x, F_X12_reach_66 (F_X12_reach_43 f) τ (zI v) x (zI i) = F_X12_reach_43 f x7 (zI v) x (zI ((i + 1 : Nat) : Int)) := by
      intro x
      unfold F_X12_reach_66
      rw [a1, Option.bind_some, if_neg a9, a2, Option.bind_some]
      unfold F_X12_reach_85
      rw [a6, Option.bind_some, zI_s1]
    rw [F_X12_reach_43, zl8, if_neg (zltF (by omega)), if_pos rfl, mo', Option.bind_some, st, st, rcH]
    by_cases q : of1 (ah μ n i) n 0 ≤ v
    · rw [if_neg (zltF (by omega)), if_pos q]
      obtain ⟨f, rfl⟩ : ∃ i, f = i + 1 := ⟨f - 1, by omega⟩
      rw [F_X12_reach_43, if_neg (show ¬ zI (i : Int) = -2 from by rw [zlm2, zI_eq (by omega) (by omega) (by omega) (by omega)]; omega)]
      by_cases q2 : (8 : Int32) < zI ((i + 1 : Nat) : Int)
      · rw [if_pos q2]; exact e95 x7 _ a7
      · rw [if_neg q2]; exact e95 x7 _ a7
    · rw [if_pos (zltT (by omega)), if_neg q]
      exact ih (i + 1) f x7 (by omega) (by omega) a7 a8
theorem sp_reach : Sp_reach Inv := by
  intro σC σM i h
  have h := Inv_0 h
  obtain ⟨z, hz1, hz2, rfl⟩ := zI_of i
  unfold F_X11_reach F_X12_reach
  rw [sw]
  generalize si σM 0 0 0 = s1 at h ⊢
  rcases h.2.2.2 with ⟨u1, u2⟩ | ⟨n, nb, t, hd, ac, μ, un, l, ca⟩
  · refine q_fin h (w := 1) (by decide) (v := -1) ?_ ?_
    · rw [if_pos u1]; rfl
    · rw [if_pos u2]; rfl
  · have l0 := l
    obtain ⟨⟨l1, l2, l3, l4⟩, ⟨g, g8, g9⟩, hm, ⟨hy, hyn⟩, ht, hb, -⟩ := l0
    have z80 : (80 : Int32) = zI 80 := by decide
    have mz : F_X12_in s1 (zI z) 0 80 = some (if 0 ≤ z ∧ z ≤ 80 then zI 1 else zI 0) := m_in s1 ⟨hz1, hz2⟩ (b := 0) (c := 80) (by omega) (by omega)
    rw [if_neg (show ¬ σC.1 0 13 = 0 by rw [l1]; decide), if_neg (show ¬ s1.1 0 25 = 0 by rw [l2]; decide), mz, Option.bind_some]
    by_cases q : 0 ≤ z ∧ z ≤ 80
    · rw [if_neg (zlt0F (by omega)), z80, if_pos (zleT (by omega)), if_pos q, if_neg (show ¬ zI 1 = 0 by decide)]
      obtain ⟨τC, a1, a2, a3⟩ := c_reach l q 9 0 FU σC (by omega) (FU_lt (by omega)) (AgC_rfl σC) ca
      obtain ⟨x1, b1, b2, b3⟩ := m_aside s1
      obtain ⟨υ, c1, c2⟩ := m_reach (UnM_l l h.2.2.1) g (by omega) q 9 0 FU x1 (by omega) (FU_lt (by omega)) b2 ⟨fun k hk => by rw [b3 2 k (by omega)]; exact hm.1 k hk, by rw [b3 0 22 (by omega)]; exact hm.2⟩
      refine f_fin h l a2 c2 a3 (w := 0) (by decide) (v := zI (rcH μ n z 9 0)) a1 ?_
      rw [b1, Option.bind_some]
      exact c1
    · refine q_fin h (w := 2) (by decide) (v := -1) ?_ ?_
      · by_cases q3 : z < 0
        · rw [if_pos (show zI z < 0 from by rw [zl0]; exact zltT (by omega))]; rfl
        · rw [if_neg (zlt0F (by omega)), z80, if_neg (zleF (by omega))]; rfl
      · rw [if_neg q, if_pos (show zI 0 = 0 by decide)]; rfl
