/-! THE BEST ROWS: both sides find the same -/
theorem Inv_f {σC σM τC τM : Sto} {v : Int32} {n nb t hd ac : Nat} {μ : Nat → Int} {un : Nat → Nat → Int} (h : Inv σC σM) (l : Ld σC σM n nb t hd ac μ un) (hC : AgC σC τC) (hM : AgM σM τM) (c : Ca τC n nb μ un) (hv : v ≠ 4) : Inv (si τC 0 18 v) (si (si τM 0 1 v) 0 2 (-1)) := by
  have hC' : AgC σC (si τC 0 18 v) := AgC_tr hC (AgC_si τC 0 18 v (by omega))
  have hM' : AgM σM (si (si τM 0 1 v) 0 2 (-1)) := AgM_tr hM (AgM_tr (AgM_si _ 0 1 v (by omega)) (AgM_si _ 0 2 _ (by omega)))
  obtain ⟨g, q, z, -⟩ := h
  refine ⟨Gl_ag hC' hM' g, ⟨?_, ?_, ?_⟩, Mz_ag hM' z, Or.inr ⟨n, nb, t, hd, ac, μ, un, Ld_ag (AgC_l hC') (AgM_l hM') l, Ca_ag (fun a h1 h2 => ?_) c⟩⟩
  · rw [si_rd, si_rd, si_rd]; simp
  · rw [hC'.1 _ _ (by omega), hM'.1 _ _ (by omega)]; exact q.2.1
  · simp only [si_rd]; simp [hv]
  · funext j
    rw [si_rd, if_neg (by omega)]
theorem f_fin {σC s1 τC τM : Sto} {FC FM : Option (Int32 × Sto)} {v w : Int32} {n nb t hd ac : Nat} {μ : Nat → Int} {un : Nat → Nat → Int} (h : Inv σC s1) (l : Ld σC s1 n nb t hd ac μ un) (hC : AgC σC τC) (hM : AgM s1 τM) (c : Ca τC n nb μ un) (hw : w ≠ 4) (e1 : FC = some (v, si τC 0 18 w)) (e2 : FM = some (v, si (si τM 0 1 w) 0 2 (-1))) : ∃ (v : Int32) (τC τM : Sto), FC = some (v, τC) ∧ FM = some (v, τM) ∧ Inv τC τM := ⟨v, _, _, e1, e2, Inv_f h l hC hM c hw⟩
theorem FnF_ag {σ τ : Sto} {a2 : Nat} (f : FnF σ τ a2) (h : 75 ≤ a2 ∧ a2 ≤ 98) : AgC σ τ := ⟨fun a k q => by rw [f.1 a (by omega) (by omega) (by omega)], f.2⟩
theorem Ca_76 {σ τ : Sto} {n nb : Nat} {μ : Nat → Int} {un : Nat → Nat → Int} (f : FnF σ τ 76) (k : RwK τ 76 n (opB μ n) (prw μ)) (c : Ca σ n nb μ un) : Ca τ n nb μ un := by
  obtain ⟨⟨c1, c2, c3, c4, c5⟩, cw, cg, cn⟩ := c
  refine ⟨⟨k, ?_, ?_, ?_, ?_⟩, ?_, ?_, ?_⟩ <;> (unfold RwK CW CG CN YQ at *; simp (disch := omega) only [f.1]; assumption)
theorem Ca_78 {σ τ : Sto} {n nb : Nat} {μ : Nat → Int} {un : Nat → Nat → Int} (f : FnF σ τ 78) (k : RwK τ 78 n (opF μ n) (gow μ)) (c : Ca σ n nb μ un) : Ca τ n nb μ un := by
  obtain ⟨⟨c1, c2, c3, c4, c5⟩, cw, cg, cn⟩ := c
  refine ⟨⟨?_, k, ?_, ?_, ?_⟩, ?_, ?_, ?_⟩ <;> (unfold RwK CW CG CN YQ at *; simp (disch := omega) only [f.1]; assumption)
theorem Ca_80 {σ τ : Sto} {n nb : Nat} {μ : Nat → Int} {un : Nat → Nat → Int} (f : FnF σ τ 80) (k : RwK τ 80 n (opG μ n nb un) (prw μ)) (c : Ca σ n nb μ un) : Ca τ n nb μ un := by
  obtain ⟨⟨c1, c2, c3, c4, c5⟩, cw, cg, cn⟩ := c
  refine ⟨⟨?_, ?_, k, ?_, ?_⟩, ?_, ?_, ?_⟩ <;> (unfold RwK CW CG CN YQ at *; simp (disch := omega) only [f.1]; assumption)
theorem Ca_82 {σ τ : Sto} {n nb : Nat} {μ : Nat → Int} {un : Nat → Nat → Int} {d : Int} (f : FnF σ τ 82) (hd : 0 ≤ d ∧ d ≤ 20) (k : RwK τ 82 n (opS μ n d) (prw μ)) (c : Ca σ n nb μ un) : Ca (si τ 75 5 (zI d)) n nb μ un := by
  obtain ⟨⟨c1, c2, c3, c4, c5⟩, cw, cg, cn⟩ := c
  refine ⟨⟨?_, ?_, ?_, Or.inr ⟨d, hd.1, hd.2, ?_, ?_⟩, ?_⟩, ?_, ?_, ?_⟩
  · unfold RwK at *; simp (disch := omega) only [si_rd, if_neg, f.1]; exact c1
  · unfold RwK at *; simp (disch := omega) only [si_rd, if_neg, f.1]; exact c2
  · unfold RwK at *; simp (disch := omega) only [si_rd, if_neg, f.1]; exact c3
  · rw [si_rd, if_pos ⟨rfl, rfl⟩]
  · unfold RwK at *; simp (disch := omega) only [si_rd, if_neg]; exact k
  · simp (disch := omega) only [si_rd, if_neg, f.1]; exact c5
  · unfold CW YQ at *; simp (disch := omega) only [si_rd, if_neg, f.1]; exact cw
  · unfold CG at *; simp (disch := omega) only [si_rd, if_neg, f.1]; exact cg
  · unfold CN at *; simp (disch := omega) only [si_rd, if_neg, f.1]; exact cn
theorem FnR_K {τ : Sto} {a2 n L : Nat} {ld : Nat → Nat → Int} {R lo hi : Nat → Int} {w : Nat → Nat → Int} (h : FnR τ a2 n L ld R lo hi w) : RwK τ a2 n (Opt n L ld R lo hi w) w := by
  obtain ⟨h1, h2⟩ := h
  refine Or.inr ⟨h1, ?_⟩
  rcases h2 with ⟨h2, h3⟩ | h2
  · exact Or.inl ⟨h2, fun q hq => h3 q hq.1⟩
  · exact Or.inr h2
theorem Fea0 {μ : Nat → Int} {n nb c : Nat} {un : Nat → Nat → Int} (g : Gd μ n c) (ub : ∀ b, b < nb → ∀ s, s < n → 0 ≤ un b s ∧ un b s ≤ 99) : Fea n (1 + nb) (lds μ un) (rms μ n un) lo0 hi0 (fun _ => 0) := by
  refine ⟨fun s hs => ⟨Int.le_refl _, show (0 : Int) ≤ 20 by decide⟩, fun e he => ?_⟩
  rw [sz_cg (g := fun _ => 0) (fun s hs => Int.mul_zero _), sz_c, Int.mul_zero]
  unfold rms
  by_cases q : e = 0
  · rw [if_pos q]; exact (al_bd0 g).1
  · rw [if_neg q]
    exact sz_nn (fun s hs => Int.mul_nonneg (ub (e - 1) (by omega) s hs).1 (g.2.2.1 s hs).1.1)
theorem FnR_some {τ : Sto} {a2 n L : Nat} {ld : Nat → Nat → Int} {R lo hi : Nat → Int} {w : Nat → Nat → Int} {r : Nat → Int} (h : FnR τ a2 n L ld R lo hi w) (hr : Fea n L ld R lo hi r) : τ.1 a2 1 = 1 ∧ ∃ q, Opt n L ld R lo hi w q ∧ τ.1 a2 2 = zI (vl n w q) ∧ ∀ s, s < n → τ.1 (a2 + 1) s = zI (q s) := by
  rcases h.2 with ⟨h2, h3⟩ | h2
  · exact absurd hr (h3 r)
  · exact h2
/-- a search of the class, known or not -/
theorem cf_best {σ σM : Sto} {n nb t hd ac : Nat} {μ : Nat → Int} {un : Nat → Nat → Int} (l : Ld σ σM n nb t hd ac μ un) (c : Ca σ n nb μ un) : ∃ τ q, F_X2_findBest σ t 3 = some (76, τ) ∧ AgC σ τ ∧ Ca τ n nb μ un ∧ (∀ a, 84 ≤ a → τ.1 a = σ.1 a) ∧ opB μ n q ∧ τ.1 76 2 = zI (vl n (prw μ) q) ∧ ∀ s, s < n → τ.1 77 s = zI (q s) := by
  obtain ⟨⟨l1, l2, l3, l4⟩, ⟨g, g8, g9⟩, hm, ⟨hy, hyn⟩, ht, hb, -⟩ := l
  obtain ⟨x1, b1, ⟨τ, b2, b3, b4⟩, -⟩ := c_plain (a2 := 76) yC_3 (by omega) (tC_t l4) (by omega) (YR_Q hy) ht g (by decide) (by omega)
  obtain ⟨b5, q, b6, b7, b8⟩ := FnR_some b4 (Fea0 (nb := 0) g (fun b hb => by omega))
  unfold F_X2_findBest
  rcases c.1.1 with k | ⟨k1, k2⟩
  · refine ⟨τ, q, ?_, FnF_ag b3 (by omega), Ca_76 b3 (FnR_K b4) c, fun a ha => b3.1 a (by omega) (by omega) (by omega), b6, b7, b8⟩
    rw [if_pos k, b1, Option.bind_some, if_pos (tC_t l4).1, b2, Option.bind_some]
  · rcases k2 with ⟨k2, k3⟩ | ⟨k2, p, k3, k4, k5⟩
    · exact absurd b6 (k3 q)
    · exact ⟨σ, p, by rw [if_neg (by rw [k1]; decide)], AgC_rfl σ, c, fun _ _ => rfl, k3, k4, k5⟩
theorem cf_fair {σ σM : Sto} {n nb t hd ac : Nat} {μ : Nat → Int} {un : Nat → Nat → Int} (l : Ld σ σM n nb t hd ac μ un) (c : Ca σ n nb μ un) : ∃ τ q, F_X2_findFair σ t 3 = some (78, τ) ∧ AgC σ τ ∧ Ca τ n nb μ un ∧ (∀ a, 84 ≤ a → τ.1 a = σ.1 a) ∧ opF μ n q ∧ τ.1 78 2 = zI (vl n (gow μ) q) ∧ ∀ s, s < n → τ.1 79 s = zI (q s) := by
  obtain ⟨⟨l1, l2, l3, l4⟩, ⟨g, g8, g9⟩, hm, ⟨hy, hyn⟩, ht, hb, -⟩ := l
  obtain ⟨x1, b1, -, ⟨τ, b2, b3, b4⟩⟩ := c_plain (a2 := 78) yC_3 (by omega) (tC_t l4) (by omega) (YR_Q hy) ht g (by decide) (by omega)
  obtain ⟨b5, q, b6, b7, b8⟩ := FnR_some b4 (Fea0 (nb := 0) g (fun b hb => by omega))
  unfold F_X2_findFair
  rcases c.1.2.1 with k | ⟨k1, k2⟩
  · refine ⟨τ, q, ?_, FnF_ag b3 (by omega), Ca_78 b3 (FnR_K b4) c, fun a ha => b3.1 a (by omega) (by omega) (by omega), b6, b7, b8⟩
    rw [if_pos k, b1, Option.bind_some, if_pos (tC_t l4).1, b2, Option.bind_some]
  · rcases k2 with ⟨k2, k3⟩ | ⟨k2, p, k3, k4, k5⟩
    · exact absurd b6 (k3 q)
    · exact ⟨σ, p, by rw [if_neg (by rw [k1]; decide)], AgC_rfl σ, c, fun _ _ => rfl, k3, k4, k5⟩
theorem By_u {σC σM : Sto} {n nb t : Nat} {un : Nat → Nat → Int} (h : By σC σM n nb t un) : ∀ b, b < nb → ∀ s, s < n → 0 ≤ un b s ∧ un b s ≤ 99 := fun b hb s hs => (h.2.2.2 b hb s hs).2.2
theorem cf_gentle {σ σM : Sto} {n nb t hd ac : Nat} {μ : Nat → Int} {un : Nat → Nat → Int} (l : Ld σ σM n nb t hd ac μ un) (c : Ca σ n nb μ un) : ∃ τ q, F_X2_findGentle σ t 3 = some (80, τ) ∧ AgC σ τ ∧ Ca τ n nb μ un ∧ opG μ n nb un q ∧ τ.1 80 2 = zI (vl n (prw μ) q) ∧ ∀ s, s < n → τ.1 81 s = zI (q s) := by
  obtain ⟨⟨l1, l2, l3, l4⟩, ⟨g, g8, g9⟩, hm, ⟨hy, hyn⟩, ht, hb, -⟩ := l
  obtain ⟨x1, b1, τ, b2, b3, b4⟩ := c_gentle (un := un) yC_3 (by omega) (tC_t l4) (by omega) (YR_Q hy) ht g hb.1 hb.2.1 (fun b hbb s hs => (hb.2.2.2 b hbb s hs).1) (By_u hb)
  obtain ⟨b5, q, b6, b7, b8⟩ := FnR_some b4 (Fea0 g (By_u hb))
  unfold F_X2_findGentle
  rcases c.1.2.2.1 with k | ⟨k1, k2⟩
  · refine ⟨τ, q, ?_, FnF_ag b3 (by omega), Ca_80 b3 (FnR_K b4) c, b6, b7, b8⟩
    rw [if_pos k, b1, Option.bind_some, b2]
  · rcases k2 with ⟨k2, k3⟩ | ⟨k2, p, k3, k4, k5⟩
    · exact absurd b6 (k3 q)
    · exact ⟨σ, p, by rw [if_neg (by rw [k1]; decide)], AgC_rfl σ, c, k3, k4, k5⟩
theorem cf_steady {σ σM : Sto} {n nb t hd ac : Nat} {μ : Nat → Int} {un : Nat → Nat → Int} {d : Int} (l : Ld σ σM n nb t hd ac μ un) (c : Ca σ n nb μ un) (hd' : 0 ≤ d ∧ d ≤ 20) : ∃ τ, F_X2_findSteady σ t 3 (zI d) = some (82, τ) ∧ AgC σ τ ∧ Ca τ n nb μ un ∧ ((τ.1 82 1 = 0 ∧ ∀ q, ¬ opS μ n d q) ∨ (τ.1 82 1 = 1 ∧ ∃ q, opS μ n d q ∧ τ.1 82 2 = zI (vl n (prw μ) q) ∧ ∀ s, s < n → τ.1 83 s = zI (q s))) := by
  obtain ⟨⟨l1, l2, l3, l4⟩, ⟨g, g8, g9⟩, hm, ⟨hy, hyn⟩, ht, hb, -⟩ := l
  obtain ⟨x1, b1, x2, b2, τ, b3, b4, b5⟩ := c_near (a2 := 82) (d := d) yC_3 (by omega) (tC_t l4) (by omega) (YR_Q hy) ht g (by decide) (by omega) hd'
  have new : ∃ τ, F_X2_findSteady_18 σ t 3 (zI d) = some (82, τ) ∧ AgC σ τ ∧ Ca τ n nb μ un ∧ ((τ.1 82 1 = 0 ∧ ∀ q, ¬ opS μ n d q) ∨ (τ.1 82 1 = 1 ∧ ∃ q, opS μ n d q ∧ τ.1 82 2 = zI (vl n (prw μ) q) ∧ ∀ s, s < n → τ.1 83 s = zI (q s))) := by
    refine ⟨si τ 75 5 (zI d), ?_, AgC_tr (FnF_ag b4 (by omega)) (AgC_si _ _ _ _ (by omega)), Ca_82 b4 hd' (FnR_K b5) c, ?_⟩
    · unfold F_X2_findSteady_18
      rw [b1, Option.bind_some, if_pos yC_3.1]
      show (F_X8_holdNear x1 (3 + 1) (zI d)).bind _ = _
      rw [b2, Option.bind_some, if_pos (tC_t l4).1, b3, Option.bind_some, sw]
    · simp (disch := omega) only [si_rd, if_neg]
      rcases b5.2 with ⟨k2, k3⟩ | k2
      · exact Or.inl ⟨k2, fun q hq => k3 q hq.1⟩
      · exact Or.inr k2
  unfold F_X2_findSteady
  rcases c.1.2.2.2.1 with k | ⟨d', d1, d2, d3, d4⟩
  · rw [if_pos k]; exact new
  · rcases d4 with k | ⟨k1, k2⟩
    · rw [if_pos k]; exact new
    · rw [if_neg (by rw [k1]; decide), d3]
      by_cases q : d' = d
      · subst q
        rw [if_pos rfl]
        exact ⟨σ, rfl, AgC_rfl σ, c, k2⟩
      · rw [if_neg (by rw [zI_eq (by omega) (by omega) (by omega) (by omega)]; exact q)]
        exact new
/-- a search of the reference -/
theorem m_best {σC σ : Sto} {n nb t hd ac : Nat} {μ : Nat → Int} {un : Nat → Nat → Int} {ig : Int32} {w : Nat → Nat → Int} (l : Ld σC σ n nb t hd ac μ un) (z : Mz σ) (hi : IgW μ ig w) : ∃ τ q, F_X12_finds σ ig = some (zI (vl n w q), τ) ∧ MfF σ τ ∧ Opt n 1 (lds μ fun _ _ => 0) (rms μ n fun _ _ => 0) lo0 hi0 w q ∧ (∀ s, s < n → τ.1 16 s = zI (q s)) ∧ -16000 ≤ vl n w q ∧ vl n w q ≤ 32000 := by
  obtain ⟨-, ⟨g, g8, g9⟩, hm, -, -, hb, -⟩ := l
  have h4 := g.1.2.1
  obtain ⟨G, τ, e1, e2, F, e3⟩ := m_finds hm g hb.2.2.1 hb.1 (fun b hbb s hs => (hb.2.2.2 b hbb s hs).2.1) (By_u hb) hi z.2 (Or.inl rfl) (Or.inl ⟨z.1, rfl, rfl⟩)
  rcases m_fea h4 (fun s hs => ⟨(h0b s).1, (h0b s).2.2⟩) (Ig_bd g.2.1 hi) (fun q => FeM_1 q) e3 with ⟨_, k⟩ | ⟨q, k1, k2, k3⟩
  · exact absurd (Fea0 (nb := 0) g (fun b hb => by omega)) (k _)
  · have := sz_bd (n := n) (f := fun s => w s (q s).toNat) (a := -4000) (b := 8000) (fun s hs => Ig_bd g.2.1 hi s hs _ (by have := k1.1.1 s hs; unfold lo0 hi0 at this; omega))
    refine ⟨τ, q, by rw [e1, k2], e2, k1, k3, ?_, ?_⟩
    · unfold vl; omega
    · unfold vl; omega
theorem m_gentle {σC σ : Sto} {n nb t hd ac : Nat} {μ : Nat → Int} {un : Nat → Nat → Int} (l : Ld σC σ n nb t hd ac μ un) (z : Mz σ) : ∃ τ q, F_X12_findsGentle σ = some (zI (vl n (prw μ) q), τ) ∧ AgM σ τ ∧ opG μ n nb un q ∧ (∀ s, s < n → τ.1 16 s = zI (q s)) ∧ -16000 ≤ vl n (prw μ) q ∧ vl n (prw μ) q ≤ 32000 := by
  obtain ⟨-, ⟨g, g8, g9⟩, hm, -, -, hb, -⟩ := l
  have h4 := g.1.2.1
  have hi : IgW μ 0 (prw μ) := Or.inl ⟨rfl, rfl⟩
  have hm1 : MS (si σ 0 39 1) μ n := by
    unfold MS at *
    simp (disch := omega) only [si_rd, if_neg]
    exact hm
  obtain ⟨G, τ, e1, e2, F, e3⟩ := m_finds (σ := si σ 0 39 1) (gf := 1) (un := un) (nb := nb) hm1 g (by rw [si_rd, if_neg (by omega)]; exact hb.2.2.1) hb.1 (fun b hbb s hs => by rw [si_rd, if_neg (by omega)]; exact (hb.2.2.2 b hbb s hs).2.1) (By_u hb) hi (by rw [si_rd, if_pos ⟨rfl, rfl⟩]) (Or.inr rfl) (Or.inl ⟨by rw [si_rd, if_neg (by omega)]; exact z.1, rfl, rfl⟩)
  rcases m_fea h4 (fun s hs => ⟨(h0b s).1, (h0b s).2.2⟩) (Ig_bd g.2.1 hi) (fun q => FeM_G q) e3 with ⟨_, k⟩ | ⟨q, k1, k2, k3⟩
  · exact absurd (Fea0 g (By_u hb)) (k _)
  · have := sz_bd (n := n) (f := fun s => prw μ s (q s).toNat) (a := -4000) (b := 8000) (fun s hs => Ig_bd g.2.1 hi s hs _ (by have := k1.1.1 s hs; unfold lo0 hi0 at this; omega))
    refine ⟨si τ 0 39 0, q, ?_, ⟨fun a k q => ?_, e2.2.2⟩, k1, fun s hs => by rw [si_rd, if_neg (by omega)]; exact k3 s hs, ?_, ?_⟩
    · unfold F_X12_findsGentle
      rw [sw, e1, Option.bind_some, sw, k2]
    · rw [si_rd]
      by_cases e : a = 0 ∧ k = 39
      · rw [if_pos e, e.1, e.2]; exact z.2.symm
      · rw [if_neg e, (MfF_ag e2).1 a k q, si_rd, if_neg e]
    · unfold vl; omega
    · unfold vl; omega
theorem m_steady {σC σ : Sto} {n nb t hd ac : Nat} {μ : Nat → Int} {un : Nat → Nat → Int} {d : Int} (l : Ld σC σ n nb t hd ac μ un) (z : Mz σ) (hd' : 0 ≤ d ∧ d ≤ 20) : ∃ v τ, F_X12_findsSteady σ (zI d) = some (v, τ) ∧ AgM σ τ ∧ ((v = -100000000 ∧ ∀ q, ¬ opS μ n d q) ∨ ∃ q, opS μ n d q ∧ v = zI (vl n (prw μ) q) ∧ (∀ s, s < n → τ.1 16 s = zI (q s)) ∧ -16000 ≤ vl n (prw μ) q ∧ vl n (prw μ) q ≤ 32000) := by
  obtain ⟨-, ⟨g, g8, g9⟩, hm, -, -, hb, -⟩ := l
  have h4 := g.1.2.1
  have hi : IgW μ 0 (prw μ) := Or.inl ⟨rfl, rfl⟩
  have hm1 : MS (si σ 0 38 (zI d)) μ n := by
    unfold MS at *
    simp (disch := omega) only [si_rd, if_neg]
    exact hm
  obtain ⟨G, τ, e1, e2, F, e3⟩ := m_finds (σ := si σ 0 38 (zI d)) (gf := 0) (un := un) (nb := nb) hm1 g (by rw [si_rd, if_neg (by omega)]; exact hb.2.2.1) hb.1 (fun b hbb s hs => by rw [si_rd, if_neg (by omega)]; exact (hb.2.2.2 b hbb s hs).2.1) (By_u hb) hi (by rw [si_rd, if_neg (by omega)]; exact z.2) (Or.inl rfl) (Or.inr ⟨d, hd'.1, hd'.2, by rw [si_rd, if_pos ⟨rfl, rfl⟩], rfl, rfl⟩)
  have ag : AgM σ (si τ 0 38 (-1)) := by
    refine ⟨fun a k q => ?_, e2.2.2⟩
    rw [si_rd]
    by_cases e : a = 0 ∧ k = 38
    · rw [if_pos e, e.1, e.2]; exact z.1.symm
    · rw [if_neg e, (MfF_ag e2).1 a k q, si_rd, if_neg e]
  refine ⟨zI G, si τ 0 38 (-1), ?_, ag, ?_⟩
  · unfold F_X12_findsSteady
    rw [sw, e1, Option.bind_some, sw]
  · rcases m_fea h4 (fun s hs => by unfold loD hiD; omega) (Ig_bd g.2.1 hi) (fun q => FeM_1 q) e3 with ⟨k0, k⟩ | ⟨q, k1, k2, k3⟩
    · exact Or.inl ⟨k0, fun q hq => k q hq.1⟩
    · have := sz_bd (n := n) (f := fun s => prw μ s (q s).toNat) (a := -4000) (b := 8000) (fun s hs => Ig_bd g.2.1 hi s hs _ (by have := k1.1.1 s hs; unfold loD hiD at this; omega))
      refine Or.inr ⟨q, k1, k2, fun s hs => by rw [si_rd, if_neg (by omega)]; exact k3 s hs, ?_, ?_⟩
      · unfold vl; omega
      · unfold vl; omega
