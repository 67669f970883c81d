/-! THE GAME: the first of the greatest -/
def GmP (μ : Nat → Int) (n s : Nat) (p : Int) (o : Option (Nat × Int)) : Prop := match o with
  | none => ∀ u q, (u < s ∨ (u = s ∧ q < p)) → ¬ gOk μ n u q
  | some x => (x.1 < s ∨ (x.1 = s ∧ x.2 < p)) ∧ gOk μ n x.1 x.2 ∧ ∀ u q, (u < s ∨ (u = s ∧ q < p)) → gOk μ n u q → gw μ n u q ≤ gw μ n x.1 x.2 ∧ (gw μ n u q = gw μ n x.1 x.2 → x.1 < u ∨ (x.1 = u ∧ x.2 ≤ q))
theorem G_skip {μ : Nat → Int} {n s : Nat} {p : Int} {o : Option (Nat × Int)} (h : GmP μ n s p o) (k : ¬ gOk μ n s p ∨ ∃ x, o = some x ∧ gw μ n s p ≤ gw μ n x.1 x.2) : GmP μ n s (p + 1) o := by
  cases o with
  | none =>
    intro u q hc
    rcases k with k | ⟨x, k, _⟩
    · by_cases e : u = s ∧ q = p
      · rw [e.1, e.2]; exact k
      · exact h u q (by omega)
    · cases k
  | some x =>
    obtain ⟨h1, h2, h3⟩ := h
    refine ⟨by omega, h2, fun u q hc ho => ?_⟩
    by_cases e : u = s ∧ q = p
    · rw [e.1, e.2] at ho ⊢
      rcases k with k | ⟨y, k, k2⟩
      · exact absurd ho k
      · cases k
        exact ⟨k2, fun _ => by omega⟩
    · exact h3 u q (by omega) ho
theorem G_new {μ : Nat → Int} {n s : Nat} {p : Int} {o : Option (Nat × Int)} (h : GmP μ n s p o) (g : gOk μ n s p) (k : o = none ∨ ∃ x, o = some x ∧ gw μ n x.1 x.2 < gw μ n s p) : GmP μ n s (p + 1) (some (s, p)) := by
  refine ⟨Or.inr ⟨rfl, by dsimp only; omega⟩, g, fun u q hc ho => ?_⟩
  dsimp only
  by_cases e : u = s ∧ q = p
  · rw [e.1, e.2]
    exact ⟨Int.le_refl _, fun _ => Or.inr ⟨rfl, Int.le_refl _⟩⟩
  · have hc' : u < s ∨ (u = s ∧ q < p) := by omega
    rcases k with k | ⟨x, k, k2⟩
    · rw [k] at h
      exact absurd ho (h u q hc')
    · rw [k] at h
      have := (h.2.2 u q hc' ho).1
      exact ⟨by omega, fun e => by omega⟩
theorem G_brk {μ : Nat → Int} {n s : Nat} {p : Int} {o : Option (Nat × Int)} (h : GmP μ n s p o) (hp : p ≤ 21) (k : ∀ q, p ≤ q → ¬ gOk μ n s q) : GmP μ n s 21 o := by
  cases o with
  | none =>
    intro u q hc
    by_cases e : u < s ∨ (u = s ∧ q < p)
    · exact h u q e
    · rw [show u = s by omega]; exact k q (by omega)
  | some x =>
    obtain ⟨h1, h2, h3⟩ := h
    refine ⟨by omega, h2, fun u q hc ho => ?_⟩
    by_cases e : u < s ∨ (u = s ∧ q < p)
    · exact h3 u q e ho
    · rw [show u = s by omega] at ho
      exact absurd ho (k q (by omega))
theorem G_row {μ : Nat → Int} {n s : Nat} {o : Option (Nat × Int)} (h : GmP μ n s 21 o) : GmP μ n (s + 1) 0 o := by
  have e : ∀ u q, (u < s + 1 ∨ (u = s + 1 ∧ q < 0)) → gOk μ n u q → (u < s ∨ (u = s ∧ q < 21)) := by
    intro u q hc ho
    have := ho.2
    omega
  cases o with
  | none => exact fun u q hc ho => h u q (e u q hc ho) ho
  | some x =>
    obtain ⟨h1, h2, h3⟩ := h
    exact ⟨by omega, h2, fun u q hc ho => h3 u q (e u q hc ho) ho⟩
theorem pl_Gd {μ : Nat → Int} {n c s : Nat} {p : Int} (g : Gd μ n c) (hs : s < n) (hp : 0 ≤ p ∧ p ≤ 20) : Gd (pl μ s p) n c := Gd_N g (pl_N μ hs g.1.2.1 p) (fun u hu => by
  unfold pl
  by_cases e : u = s
  · rw [if_pos (by omega)]; exact hp
  · rw [if_neg (by omega)]; exact (g.2.2.1 u hu).2.1)
theorem allP_bd {μ : Nat → Int} {n c : Nat} (g : Gd μ n c) : -16000 ≤ allP μ n ∧ allP μ n ≤ 16000 := by
  have h4 := g.1.2.1
  have := sz_bd (n := n) (f := fun s => pr μ s (μ (7 * s + 1))) (a := -4000) (b := 4000) (fun s hs => pr_bd g.2.1 hs (g.2.2.1 s hs).2.1.1 (g.2.2.1 s hs).2.1.2)
  unfold allP
  omega
theorem vP_bd {μ : Nat → Int} {n c : Nat} (g : Gd μ n c) {q : Nat → Int} (hq : ∀ s, s < n → 0 ≤ q s ∧ q s ≤ 20) : -16000 ≤ vl n (prw μ) q ∧ vl n (prw μ) q ≤ 16000 := by
  have h4 := g.1.2.1
  have := sz_bd (n := n) (f := fun s => prw μ s (q s).toNat) (a := -4000) (b := 4000) (fun s hs => pr_bd g.2.1 hs (by omega) (by have := hq s hs; omega))
  unfold vl
  omega
theorem gw_ev {μ : Nat → Int} {n c s : Nat} {p : Int} (g : Gd μ n c) (hs : s < n) (hp : 0 ≤ p ∧ p ≤ 20) : vl n (prw (en (pl μ s p) n)) (bR (en (pl μ s p) n) n) = vl n (prw μ) (bR (en (pl μ s p) n) n) := vl_eq (EqN_prw (sT_tr (en_sT _ g.1.2.1) (EqN_sT (pl_N μ hs g.1.2.1 p)))) _
theorem gw_bd {μ : Nat → Int} {n c s : Nat} {p : Int} (g : Gd μ n c) (hc : c + 1 ≤ 120) (hs : s < n) (hp : 0 ≤ p ∧ p ≤ 20) : -32000 ≤ gw μ n s p ∧ gw μ n s p ≤ 32000 := by
  have a := allP_bd (pl_Gd g hs hp)
  have b := vP_bd g (bR_bd (en_Gd (pl_Gd g hs hp) hc))
  unfold gw
  omega
/-- the reference -/
def RfO (τ : Sto) (μ : Nat → Int) (n : Nat) (o : Option (Nat × Int)) : Prop := match o with
  | none => τ.1 0 48 = -1
  | some x => τ.1 0 47 = zI (gw μ n x.1 x.2) ∧ τ.1 0 48 = zI x.1 ∧ τ.1 0 49 = zI x.2 ∧ τ.1 0 50 = zI (allP (pl μ x.1 x.2) n)
theorem PpF_hi {σ τ : Sto} {k : Nat} {x : Int32} (h : PpF σ τ) (hk : 47 ≤ k) : PpF σ (si τ 0 k x) := ⟨fun a j q1 q2 q3 q4 => by rw [si_rd, if_neg (by omega)]; exact h.1 a j q1 q2 q3 q4, fun j hj => by rw [si_rd, if_neg (by omega)]; exact h.2.1 j hj, h.2.2⟩
theorem RfO_f {τ υ : Sto} {μ : Nat → Int} {n : Nat} {o : Option (Nat × Int)} (f : ∀ k, 47 ≤ k → υ.1 0 k = τ.1 0 k) (h : RfO τ μ n o) : RfO υ μ n o := by
  cases o with
  | none => exact (f 48 (by omega)).trans h
  | some x =>
    unfold RfO at *
    rw [f 47 (by omega), f 48 (by omega), f 49 (by omega), f 50 (by omega)]
    exact h
theorem m_play {s1 : Sto} {n nb c s : Nat} {μ : Nat → Int} {un : Nat → Nat → Int} (K : Sto → Int32 → Option (Int32 × Sto)) (u : UnM s1 n nb un) (m1 : MS s1 μ n) (g : Gd μ n c) (hc : c + 1 ≤ 120) (hs : s < n) : ∀ (m p f : Nat) (τ : Sto) (o : Option (Nat × Int)), p + m = 21 → m < f → PpF s1 τ → MS τ μ n → RfO τ μ n o → GmP μ n s p o → ∃ τ' o', F_X12_plays_21 K f τ (zI s) (zI p) = K τ' (zI ((s + 1 : Nat) : Int)) ∧ PpF s1 τ' ∧ MS τ' μ n ∧ RfO τ' μ n o' ∧ GmP μ n s 21 o' := by
  have h4 := g.1.2.1
  intro m
  induction m with
  | zero =>
    intro p f τ o k1 k2 pf h ro G
    obtain ⟨f, rfl⟩ : ∃ i, f = i + 1 := ⟨f - 1, by omega⟩
    refine ⟨τ, o, ?_, pf, h, ro, ?_⟩
    · rw [F_X12_plays_21, zl20, if_pos (zltT (by omega)), zI_s1]
    · rw [show (21 : Int) = ((p : Nat) : Int) by omega]; exact G
  | succ m ih =>
    intro p f τ o k1 k2 pf h ro G
    obtain ⟨f, rfl⟩ : ∃ i, f = i + 1 := ⟨f - 1, by omega⟩
    have hp : 0 ≤ (p : Int) ∧ (p : Int) ≤ 20 := by omega
    rw [F_X12_plays_21, zl20, if_neg (zltF (by omega)), m_keptBy h g hs hp, Option.bind_some, zI_s1 p]
    by_cases q : spw μ n s p ≤ al μ n
    · have ok : gOk μ n s p := ⟨hs, hp.1, hp.2, q⟩
      rw [if_pos q, if_neg (show ¬ zI 1 = 0 by decide)]
      have gp := pl_Gd g hs hp
      have hP : MS (si τ 2 (7 * s + 1) (zI p)) (pl μ s p) n := by
        refine ⟨fun k hk => ?_, by rw [si_rd, if_neg (by omega)]; exact h.2⟩
        unfold pl
        rw [si_rd]
        by_cases e : k = 7 * s + 1
        · rw [if_pos ⟨rfl, e⟩, if_pos e]
        · rw [if_neg (by omega), if_neg e]; exact h.1 k hk
      have p1 : PpF s1 (si τ 2 (7 * s + 1) (zI p)) := PpF_2 pf (fun a j qq => by rw [si_rd, if_neg (by omega)]) rfl
      obtain ⟨x3, b1, b2, b3, b4⟩ := m_ends hP gp
      have p3 := PpF_2 p1 b3 b4
      obtain ⟨x4, c1, c2, c3, c4, c5⟩ := m_bestP b2 (en_Gd gp hc) (PpF_u p3 u)
      obtain ⟨x5, d1, d2, d3, d4⟩ := m_backP (PpF_m p3 c2)
      have m5 : MS x5 μ n := MS_ag (AgM_l d2) m1
      have hi5 : ∀ k, 47 ≤ k → x5.1 0 k = τ.1 0 k := fun k hk => by
        rw [d4 0 k (by omega), c2.2.1 k (by omega), b3 0 k (by omega), si_rd, if_neg (by omega)]
      have ro5 := RfO_f hi5 ro
      have ib5 : ib (7 * zI (s : Int) + 1) 534 := by
        rw [zl7, zl1, zI_mul, zI_add, zI_ib (by omega) (by omega)]
        omega
      have ix5 : ix (7 * zI (s : Int) + 1) = 7 * s + 1 := by
        rw [zl7, zl1, zI_mul, zI_add, zI_ix (by omega) (by omega)]
        omega
      rw [if_pos ib5, sw, ix5, m_allP hP gp, Option.bind_some, b1, Option.bind_some, c1, Option.bind_some, d1, Option.bind_some, zI_add, gw_ev g hs hp]
      have egw : allP (pl μ s p) n + vl n (prw μ) (bR (en (pl μ s p) n) n) = gw μ n s p := rfl
      have gb := gw_bd g hc hs hp
      rw [egw]
      have new : (o = none ∨ ∃ x, o = some x ∧ gw μ n x.1 x.2 < gw μ n s p) → ∃ τ' o', F_X12_plays_94 K (F_X12_plays_21 K f) x5 (zI s) (zI p) (zI (allP (pl μ s p) n)) (zI (gw μ n s p)) = K τ' (zI ((s + 1 : Nat) : Int)) ∧ PpF s1 τ' ∧ MS τ' μ n ∧ RfO τ' μ n o' ∧ GmP μ n s 21 o' := by
        intro hn
        unfold F_X12_plays_94
        rw [sw, sw, sw, sw, zI_s1]
        refine ih (p + 1) f _ (some (s, (p : Int))) (by omega) (by omega) (PpF_hi (PpF_hi (PpF_hi (PpF_hi d3 (by omega)) (by omega)) (by omega)) (by omega)) ?_ ⟨?_, ?_, ?_, ?_⟩ (G_new G ok hn)
        · unfold MS at *
          simp (disch := omega) only [si_rd, if_neg]
          exact m5
        · rw [si_rd, if_neg (by omega), si_rd, if_neg (by omega), si_rd, if_neg (by omega), si_rd, if_pos ⟨rfl, rfl⟩]
        · rw [si_rd, if_neg (by omega), si_rd, if_neg (by omega), si_rd, if_pos ⟨rfl, rfl⟩]
        · rw [si_rd, if_neg (by omega), si_rd, if_pos ⟨rfl, rfl⟩]
        · rw [si_rd, if_pos ⟨rfl, rfl⟩]
      cases o with
      | none =>
        rw [if_pos (show x5.1 0 48 = -1 from ro5)]
        exact new (Or.inl rfl)
      | some x =>
        have xb := gw_bd g hc G.2.1.1 ⟨G.2.1.2.1, G.2.1.2.2.1⟩
        have xs := G.2.1.1
        rw [ro5.2.1, if_neg (show ¬ zI (x.1 : Int) = -1 from by rw [zlm1, zI_eq (by omega) (by omega) (by omega) (by omega)]; omega), ro5.1]
        by_cases q2 : gw μ n x.1 x.2 < gw μ n s p
        · rw [if_pos (zltT (by omega))]
          exact new (Or.inr ⟨x, rfl, q2⟩)
        · rw [if_neg (zltF (by omega))]
          exact ih (p + 1) f x5 (some x) (by omega) (by omega) d3 m5 ro5 (G_skip G (Or.inr ⟨x, rfl, by omega⟩))
    · rw [if_neg q, if_pos (show zI 0 = 0 by decide)]
      exact ih (p + 1) f τ o (by omega) (by omega) pf h ro (G_skip G (Or.inl (fun h => q h.2.2.2)))
theorem m_plays {s1 : Sto} {n nb c : Nat} {μ : Nat → Int} {un : Nat → Nat → Int} (u : UnM s1 n nb un) (m1 : MS s1 μ n) (g : Gd μ n c) (hc : c + 1 ≤ 120) : ∃ τ o, F_X12_plays s1 = some (if o = none then 0 else 1, τ) ∧ AgM s1 τ ∧ RfO τ μ n o ∧ GmP μ n n 0 o := by
  have h4 := g.1.2.1
  have loop : ∀ (d s f : Nat) (τ : Sto) (o : Option (Nat × Int)), s + d = n → d < f → PpF s1 τ → MS τ μ n → RfO τ μ n o → GmP μ n s 0 o → (∀ k, k < 34 → τ.1 2 k = s1.1 2 k) → ∃ υ o', F_X12_plays_11 f τ (zI s) = some (if o' = none then 0 else 1, υ) ∧ AgM s1 υ ∧ RfO υ μ n o' ∧ GmP μ n n 0 o' := by
    intro d
    induction d with
    | zero =>
      intro s f τ o k1 k2 pf h ro G e2
      obtain ⟨f, rfl⟩ : ∃ i, f = i + 1 := ⟨f - 1, by omega⟩
      have e : s = n := k1
      subst e
      have ag : AgM s1 τ := ⟨fun a k q => by
        by_cases e : a = 2 ∧ k < 34
        · rw [e.1]; exact e2 k e.2
        · exact pf.1 a k (by omega) e (by omega) (by omega), pf.2.2⟩
      refine ⟨τ, o, ?_, ag, ro, G⟩
      rw [F_X12_plays_11, h.2, if_pos (zleT (by omega))]
      cases o with
      | none => rw [if_pos (show τ.1 0 48 = -1 from ro)]; rfl
      | some x =>
        have xs := G.2.1.1
        rw [ro.2.1, if_neg (show ¬ zI (x.1 : Int) = -1 from by rw [zlm1, zI_eq (by omega) (by omega) (by omega) (by omega)]; omega)]; rfl
    | succ d ih =>
      intro s f τ o k1 k2 pf h ro G e2
      obtain ⟨f, rfl⟩ : ∃ i, f = i + 1 := ⟨f - 1, by omega⟩
      obtain ⟨τ', o', a1, a2, a3, a4, a5⟩ := m_play (F_X12_plays_11 f) u m1 g hc (show s < n by omega) 21 0 FU τ o (by omega) (FU_lt (by omega)) pf h ro G
      have a1' : F_X12_plays_21 (F_X12_plays_11 f) FU τ (zI s) 0 = _ := a1
      rw [F_X12_plays_11, h.2, if_neg (zleF (by omega)), a1']
      exact ih (s + 1) f τ' o' (by omega) (by omega) a2 a3 a4 (G_row a5) (fun k hk => by rw [a3.1 k hk, m1.1 k hk])
  unfold F_X12_plays
  obtain ⟨x1, b1, b2, b3⟩ := m_aside (si s1 0 48 (-1))
  rw [sw, b1, Option.bind_some]
  have pf : PpF s1 x1 := ⟨fun a j q1 q2 q3 q4 => by rw [b2.1 a j q1 q2 q3 q4, si_rd, if_neg (by omega)], fun j hj => by rw [b2.2.1 j hj, si_rd, if_neg (by omega)], b2.2.2⟩
  have e2 : ∀ k, k < 34 → x1.1 2 k = s1.1 2 k := fun k hk => by rw [b3 2 k (by omega), si_rd, if_neg (by omega)]
  exact loop n 0 FU x1 none (by omega) (FU_lt (by omega)) pf ⟨fun k hk => by rw [e2 k hk]; exact m1.1 k hk, by rw [b3 0 22 (by omega), si_rd, if_neg (by omega)]; exact m1.2⟩ (show x1.1 0 48 = -1 by rw [b3 0 48 (by omega), si_rd, if_pos ⟨rfl, rfl⟩]) (fun u q hc' ho => by have := ho.2; omega) e2
