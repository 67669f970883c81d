/-! YEARS ON PAPER: the reference's, and next -/
def UnM (σ : Sto) (n nb : Nat) (un : Nat → Nat → Int) : Prop := σ.1 0 28 = zI nb ∧ nb ≤ 4 ∧ (∀ b, b < nb → ∀ s, s < n → σ.1 10 (4 * b + s) = zI (un b s)) ∧ (∀ b, b < nb → ∀ s, s < n → 0 ≤ un b s ∧ un b s ≤ 99) ∧ Mz σ
theorem UnM_l {σC σ : Sto} {n nb t hd ac : Nat} {μ : Nat → Int} {un : Nat → Nat → Int} (l : Ld σC σ n nb t hd ac μ un) (z : Mz σ) : UnM σ n nb un := ⟨l.2.2.2.2.2.1.2.2.1, l.2.2.2.2.2.1.1, fun b hb s hs => (l.2.2.2.2.2.1.2.2.2 b hb s hs).2.1, By_u l.2.2.2.2.2.1, z⟩
theorem m_bestP {σ : Sto} {ν : Nat → Int} {n nb c : Nat} {un : Nat → Nat → Int} (h : MS σ ν n) (g : Gd ν n c) (u : UnM σ n nb un) : ∃ τ, F_X12_finds σ 0 = some (zI (vl n (prw ν) (bR ν n)), τ) ∧ MfF σ τ ∧ (∀ s, s < n → τ.1 16 s = zI (bR ν n s)) ∧ -16000 ≤ vl n (prw ν) (bR ν n) ∧ vl n (prw ν) (bR ν n) ≤ 32000 := by
  have h4 := g.1.2.1
  have hi : IgW ν 0 (prw ν) := Or.inl ⟨rfl, rfl⟩
  obtain ⟨u1, u2, u3, u4, u5⟩ := u
  obtain ⟨G, τ, e1, e2, F, e3⟩ := m_finds h g u1 u2 u3 u4 hi u5.2 (Or.inl rfl) (Or.inl ⟨u5.1, rfl, rfl⟩)
  rcases m_fea h4 (fun s hs => ⟨(h0b s).1, (h0b s).2.2⟩) (Ig_bd g.2.1 hi) (fun q => FeM_1 q) e3 with ⟨_, k⟩ | ⟨q, k1, k2, k3⟩
  · exact absurd (Fea0 (nb := 0) g (fun b hb => by omega)) (k _)
  · have eq := bR_eq g k1
    have ev : vl n (prw ν) q = vl n (prw ν) (bR ν n) := vl_cg eq
    have := sz_bd (n := n) (f := fun s => prw ν s (bR ν n s).toNat) (a := -4000) (b := 8000) (fun s hs => Ig_bd g.2.1 hi s hs _ (by have := bR_bd g s hs; omega))
    refine ⟨τ, by rw [e1, k2, ev], e2, fun s hs => by rw [k3 s hs, eq s hs], ?_, ?_⟩
    · unfold vl; omega
    · unfold vl; omega
def PpF (σ τ : Sto) : Prop := (∀ a k, ¬ (a = 0 ∧ (k = 36 ∨ 47 ≤ k)) → ¬ (a = 2 ∧ k < 34) → a ≠ 4 → ¬ (12 ≤ a ∧ a ≤ 17) → τ.1 a k = σ.1 a k) ∧ (∀ k, k < 34 → τ.1 4 k = σ.1 2 k) ∧ τ.2 = σ.2
theorem PpF_m {σ τ υ : Sto} (h : PpF σ τ) (k : MfF τ υ) : PpF σ υ := by
  refine ⟨fun a j q1 q2 q3 q4 => ?_, fun j hj => ?_, k.2.2.trans h.2.2⟩
  · rw [← h.1 a j q1 q2 q3 q4]
    by_cases e : a = 0
    · subst e; exact k.2.1 j (by omega)
    · rw [k.1 a (by omega)]
  · rw [k.1 4 (by omega)]; exact h.2.1 j hj
theorem PpF_2 {σ τ υ : Sto} (h : PpF σ τ) (k : ∀ a j, a ≠ 2 ∨ 34 ≤ j → υ.1 a j = τ.1 a j) (r : υ.2 = τ.2) : PpF σ υ :=
  ⟨fun a j q1 q2 q3 q4 => by rw [k a j (by omega)]; exact h.1 a j q1 q2 q3 q4, fun j hj => by rw [k 4 j (by omega)]; exact h.2.1 j hj, r.trans h.2.2⟩
theorem PpF_u {σ τ : Sto} {n nb : Nat} {un : Nat → Nat → Int} (h : PpF σ τ) (u : UnM σ n nb un) : UnM τ n nb un := by
  obtain ⟨u1, u2, u3, u4, u5⟩ := u
  refine ⟨by rw [h.1 0 28 (by omega) (by omega) (by omega) (by omega)]; exact u1, u2, fun b hb s hs => by rw [h.1 10 _ (by omega) (by omega) (by omega) (by omega)]; exact u3 b hb s hs, u4, ?_, ?_⟩
  · rw [h.1 0 38 (by omega) (by omega) (by omega) (by omega)]; exact u5.1
  · rw [h.1 0 39 (by omega) (by omega) (by omega) (by omega)]; exact u5.2
theorem m_aside (σ : Sto) : ∃ τ, F_X12_keepsAside σ = some τ ∧ PpF σ τ ∧ ∀ a k, a ≠ 4 → τ.1 a k = σ.1 a k := by
  have key : ∀ (m i k : Nat) (τ : Sto), i + m = 34 → m < k → (∀ a k, a ≠ 4 → τ.1 a k = σ.1 a k) → (∀ k, k < i → τ.1 4 k = σ.1 2 k) → τ.2 = σ.2 → ∃ υ, F_X12_keepsAside_2 k τ (zI i) = some υ ∧ PpF σ υ ∧ ∀ a k, a ≠ 4 → υ.1 a k = σ.1 a k := by
    intro m
    induction m with
    | zero =>
      intro i k τ h1 h2 f c r
      obtain ⟨k, rfl⟩ : ∃ j, k = j + 1 := ⟨k - 1, by omega⟩
      refine ⟨τ, ?_, ⟨fun a j _ _ q _ => f a j q, fun j hj => c j (by omega), r⟩, f⟩
      rw [F_X12_keepsAside_2, zl34, if_pos (zleT (by omega))]
    | succ m ih =>
      intro i k τ h1 h2 f c r
      obtain ⟨k, rfl⟩ : ∃ j, k = j + 1 := ⟨k - 1, by omega⟩
      rw [F_X12_keepsAside_2, zl34, if_neg (zleF (by omega))]
      simp (disch := omega) only [zI_ib, zI_ix, Int.toNat_natCast]
      rw [if_pos (by omega), sw, zI_s1, f 2 i (by omega)]
      refine ih (i + 1) k _ (by omega) (by omega) (fun a j q => by rw [si_rd, if_neg (by omega)]; exact f a j q) (fun j hj => ?_) r
      rw [si_rd]
      by_cases e : j = i
      · rw [if_pos ⟨rfl, e⟩, e]
      · rw [if_neg (by omega)]; exact c j (by omega)
  unfold F_X12_keepsAside
  rw [zl0]
  exact key 34 0 FU σ (by omega) (FU_lt (by omega)) (fun _ _ _ => rfl) (fun k hk => by omega) rfl
theorem m_backP {σ τ : Sto} (h : PpF σ τ) : ∃ υ, F_X12_putsBack τ = some υ ∧ AgM σ υ ∧ PpF σ υ ∧ ∀ a k, a ≠ 2 → υ.1 a k = τ.1 a k := by
  have key : ∀ (m i k : Nat) (υ : Sto), i + m = 34 → m < k → (∀ a k, ¬ (a = 2 ∧ k < 34) → υ.1 a k = τ.1 a k) → (∀ k, k < i → υ.1 2 k = σ.1 2 k) → υ.2 = τ.2 → ∃ φ, F_X12_putsBack_2 k υ (zI i) = some φ ∧ (∀ a k, ¬ (a = 2 ∧ k < 34) → φ.1 a k = τ.1 a k) ∧ (∀ k, k < 34 → φ.1 2 k = σ.1 2 k) ∧ φ.2 = τ.2 := by
    intro m
    induction m with
    | zero =>
      intro i k υ h1 h2 f c r
      obtain ⟨k, rfl⟩ : ∃ j, k = j + 1 := ⟨k - 1, by omega⟩
      refine ⟨υ, ?_, f, fun j hj => c j (by omega), r⟩
      rw [F_X12_putsBack_2, zl34, if_pos (zleT (by omega))]
    | succ m ih =>
      intro i k υ h1 h2 f c r
      obtain ⟨k, rfl⟩ : ∃ j, k = j + 1 := ⟨k - 1, by omega⟩
      rw [F_X12_putsBack_2, zl34, if_neg (zleF (by omega))]
      simp (disch := omega) only [zI_ib, zI_ix, Int.toNat_natCast]
      rw [if_pos (by omega), sw, zI_s1, f 4 i (by omega), h.2.1 i (by omega)]
      refine ih (i + 1) k _ (by omega) (by omega) (fun a j q => by rw [si_rd, if_neg (by omega)]; exact f a j q) (fun j hj => ?_) r
      rw [si_rd]
      by_cases e : j = i
      · rw [if_pos ⟨rfl, e⟩, e]
      · rw [if_neg (by omega)]; exact c j (by omega)
  unfold F_X12_putsBack
  rw [zl0]
  obtain ⟨φ, e1, e2, e3, e4⟩ := key 34 0 FU τ (by omega) (FU_lt (by omega)) (fun _ _ _ => rfl) (fun k hk => by omega) rfl
  refine ⟨φ, e1, ⟨fun a k q => ?_, e4.trans h.2.2⟩, ⟨fun a j q1 q2 q3 q4 => ?_, fun j hj => ?_, e4.trans h.2.2⟩, fun a k q => e2 a k (by omega)⟩
  · by_cases e : a = 2 ∧ k < 34
    · rw [e.1]; exact e3 k e.2
    · rw [e2 a k e]; exact h.1 a k (by omega) (by omega) (by omega) (by omega)
  · rw [e2 a j q2]; exact h.1 a j q1 q2 q3 q4
  · rw [e2 4 j (by omega)]; exact h.2.1 j hj
theorem yC_92 : yC 92 := by unfold yC; decide
theorem yC_87 : yC 87 := by unfold yC; decide
/-- the year, copied onto paper -/
theorem c_copy {σ : Sto} {y n : Nat} {μ : Nat → Int} (hy : y = 87 ∨ y = 92) (h4 : n ≤ 4) (h : YR σ 3 μ n) : ∃ τ, F_X10_copy σ y 3 = some τ ∧ (∀ a k, a < y ∨ y + 4 < a → τ.1 a k = σ.1 a k) ∧ τ.2 = σ.2 ∧ YR τ y μ n := by
  obtain ⟨τ, e1, e2, e3, e4, e5, e6⟩ := y_copy (σ := σ) (a0 := y) (a1 := 3) (by rcases hy with rfl | rfl <;> decide) (by decide) (by omega)
  refine ⟨τ, e1, e2, e3, fun s hs => ⟨?_, ?_, ?_⟩, fun r hr => ?_, ?_⟩
  · rw [e6 1 (by omega) (by omega) s (by omega)]; exact (h.1 s hs).1
  · rw [e6 2 (by omega) (by omega) s (by omega)]; exact (h.1 s hs).2.1
  · rw [e6 3 (by omega) (by omega) s (by omega)]; exact (h.1 s hs).2.2
  · rw [e6 4 (by omega) (by omega) r (by omega)]; exact h.2.1 r hr
  · rw [e5]; exact h.2.2
theorem sp_next : Sp_next Inv := by
  intro σC σM h
  have h := Inv_0 h
  unfold F_X11_next F_X12_next
  rw [sw]
  generalize si σM 0 0 0 = s1 at h ⊢
  rcases h.2.2.2 with ⟨u1, u2⟩ | ⟨n, nb, t, hd, ac, μ, un, l, ca⟩
  · refine q_fin h (w := 1) (by decide) (v := -1) ?_ ?_
    · rw [if_pos u1]; rfl
    · rw [if_pos u2]; rfl
  · have l0 := l
    obtain ⟨⟨l1, l2, l3, l4⟩, ⟨g, g8, g9⟩, hm, ⟨hy, hyn⟩, ht, hb, -⟩ := l0
    have T := tC_t l4
    have h4 := g.1.2.1
    have gE : Gd (en μ n) n ((μ 32).toNat + 1) := en_Gd g (by omega)
    have ev : vl n (prw (en μ n)) (bR (en μ n) n) = vl n (prw μ) (bR (en μ n) n) := vl_eq (EqN_prw (en_sT μ h4)) _
    -- the reference
    obtain ⟨x1, a1, a2, a3⟩ := m_aside s1
    have m1 : MS x1 μ n := ⟨fun k hk => by rw [a3 2 k (by omega)]; exact hm.1 k hk, by rw [a3 0 22 (by omega)]; exact hm.2⟩
    obtain ⟨x2, b1, b2, b3, b4⟩ := m_ends m1 g
    have p2 : PpF s1 x2 := PpF_2 a2 b3 b4
    obtain ⟨x3, c1, c2, c3, -⟩ := m_bestP b2 gE (PpF_u p2 (UnM_l l h.2.2.1))
    obtain ⟨x4, d1, d2, -⟩ := m_backP (PpF_m p2 c2)
    -- the class
    have cls : ∃ τC, F_X4_nextProfit σC t 3 = some (zI (vl n (prw μ) (bR (en μ n) n)), τC) ∧ AgC σC τC ∧ Ca τC n nb μ un := by
      unfold F_X4_nextProfit
      rcases ca.2.2.2 with k | ⟨k1, k2⟩
      · rw [if_pos k]
        obtain ⟨y1, e1, e2, e3, e4⟩ := c_copy (Or.inr rfl) h4 hy
        have ty : TR y1 t μ n := TR_fr ht (fun a k i1 i2 => e2 a k (by omega))
        obtain ⟨y2, f1, f2, -, f3, f4⟩ := y_end yC_92 T e4 ty g
        have ty2 : TR y2 t (en μ n) n := TR_sT (en_sT μ h4) (TR_fr ty (fun a k i1 i2 => f3 a k (by omega) (by omega)))
        obtain ⟨y3, g1, ⟨y4, g2, g3, g5⟩, -⟩ := c_plain (a2 := 85) yC_92 (by omega) T (by omega) (YR_Q f2) ty2 gE (by decide) (by omega)
        obtain ⟨g6, q, g7, g10, g11⟩ := FnR_some g5 (Fea0 (nb := 0) gE (fun b hb => by omega))
        have eq : vl n (prw (en μ n)) q = vl n (prw (en μ n)) (bR (en μ n) n) := vl_cg (bR_eq gE g7)
        have fr : ∀ a k, ¬ (63 ≤ a ∧ a ≤ 74) → a ≠ 85 → a ≠ 86 → ¬ (92 ≤ a ∧ a ≤ 96) → y4.1 a k = σC.1 a k := by
          intro a k i1 i2 i3 i4
          rw [g3.1 a i1 i2 i3, f3 a k (by omega) (by omega), e2 a k (by omega)]
        rw [e1, Option.bind_some, f1, Option.bind_some, g1, Option.bind_some, if_pos T.1, g2, Option.bind_some, sw, sw, g10, eq, ev]
        refine ⟨_, by rw [si_rd, if_neg (by omega), si_rd, if_pos ⟨rfl, rfl⟩], ⟨fun a k i => ?_, ?_⟩, ?_⟩
        · rw [si_rd, if_neg (by omega), si_rd, if_neg (by omega)]; exact fr a k (by omega) (by omega) (by omega) (by omega)
        · exact g3.2.trans (f4.trans e3)
        · obtain ⟨⟨o1, o2, o3, o4, o5⟩, cw, cg, cn⟩ := ca
          refine ⟨⟨?_, ?_, ?_, ?_, ?_⟩, ?_, ?_, Or.inr ⟨?_, ?_⟩⟩
          · unfold RwK at *; simp (disch := omega) only [si_rd, if_neg, fr]; exact o1
          · unfold RwK at *; simp (disch := omega) only [si_rd, if_neg, fr]; exact o2
          · unfold RwK at *; simp (disch := omega) only [si_rd, if_neg, fr]; exact o3
          · unfold RwK at *; simp (disch := omega) only [si_rd, if_neg, fr]; exact o4
          · simp (disch := omega) only [si_rd, if_neg, fr]; exact o5
          · unfold CW YQ at *; simp (disch := omega) only [si_rd, if_neg, fr]; exact cw
          · unfold CG at *; simp (disch := omega) only [si_rd, if_neg, fr]; exact cg
          · rw [si_rd, if_pos ⟨rfl, rfl⟩]
          · rw [si_rd, if_neg (by omega), si_rd, if_pos ⟨rfl, rfl⟩]
      · rw [if_neg (by rw [k1]; decide)]
        exact ⟨σC, by rw [k2], AgC_rfl σC, ca⟩
    obtain ⟨τC, o1, o2, o3⟩ := cls
    refine f_fin h l o2 d2 o3 (w := 0) (by decide) (v := zI (vl n (prw μ) (bR (en μ n) n))) ?_ ?_
    · rw [if_neg (by rw [l1]; decide), l3, Option.bind_some, o1, Option.bind_some]; rfl
    · rw [if_neg (by rw [l2]; decide), a1, Option.bind_some, b1, Option.bind_some, c1, Option.bind_some, d1, Option.bind_some, ev]; rfl
