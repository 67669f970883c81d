/-! THE GAME, IN THE CLASS -/
theorem fr_max (μ : Nat → Int) (s : Nat) : ∀ m p : Nat, p ≤ m → pr μ s p ≤ pr μ s (fr μ s m : Nat)
  | 0, p, h => by rw [show p = 0 by omega]; exact Int.le_refl _
  | m + 1, p, h => by
    have a := fr_max μ s m
    unfold fr
    by_cases e : p = m + 1
    · rw [e]
      by_cases q : pr μ s (m + 1 : Nat) ≤ pr μ s (fr μ s m)
      · rw [if_pos q]; exact q
      · rw [if_neg q]; exact Int.le_refl _
    · have b := a p (by omega)
      by_cases q : pr μ s (m + 1 : Nat) ≤ pr μ s (fr μ s m)
      · rw [if_pos q]; exact b
      · rw [if_neg q]; omega
def frP (μ : Nat → Int) (n : Nat) : Int := sz n (fun s => pr μ s (fr μ s 20 : Nat))
theorem c_freeP {σ : Sto} {μ : Nat → Int} {n t : Nat} (T : tC t) (ht : TR σ t μ n) (g : GdT μ n) (h4 : n ≤ 4) : F_X4_freeProfit σ t = some (zI (frP μ n)) := by
  rw [F_X4_freeProfit, zl0]
  refine sum_loop (L := fun k a i => F_X4_freeProfit_4 k σ t a i) (R := fun z => some (zI z)) (f := fun s => pr μ s (fr μ s 20 : Nat)) (fun k acc i hi _ => ?_) (fun k => ?_) FU (FU_lt (by omega))
  · have f := fr_le μ i 20
    rw [F_X4_freeProfit_4, if_pos T.1, ht.1.1, if_neg (zleF (by omega)), c_free T ht g h4 hi, Option.bind_some]
    simp (disch := omega) only [zl21, zl1, zI_mul, zI_add, zI_ib, zI_ix]
    rw [if_pos (by omega), sw, show ((i : Int) * 21 + (fr μ i 20 : Nat)).toNat = 21 * i + fr μ i 20 by omega, t_pr ht i hi _ f, zI_add]
  · rw [F_X4_freeProfit_4, if_pos T.1, ht.1.1, if_pos (zleT (by omega))]
theorem vP_fr {μ : Nat → Int} {n : Nat} {q : Nat → Int} (hq : ∀ s, s < n → 0 ≤ q s ∧ q s ≤ 20) : vl n (prw μ) q ≤ frP μ n := sz_le (fun s hs => fr_max μ s 20 _ (by have := hq s hs; omega))
theorem frP_bd {μ : Nat → Int} {n c : Nat} (g : Gd μ n c) : -16000 ≤ frP μ n ∧ frP μ n ≤ 16000 := by
  have h4 := g.1.2.1
  have := sz_bd (n := n) (f := fun s => pr μ s (fr μ s 20 : Nat)) (a := -4000) (b := 4000) (fun s hs => pr_bd g.2.1 hs (by omega) (by have := fr_le μ s 20; omega))
  unfold frP
  omega
def GfF (σ τ : Sto) : Prop := (∀ a k, ¬ (63 ≤ a ∧ a ≤ 74) → ¬ (85 ≤ a ∧ a ≤ 86) → ¬ (92 ≤ a ∧ a ≤ 96) → a ≠ 98 → ¬ (a = 84 ∧ (k = 7 ∨ k = 8)) → τ.1 a k = σ.1 a k) ∧ τ.2 = σ.2
theorem GfF_rfl (σ : Sto) : GfF σ σ := ⟨fun _ _ _ _ _ _ _ => rfl, rfl⟩
theorem GfF_tr {σ τ υ : Sto} (h : GfF σ τ) (k : GfF τ υ) : GfF σ υ := ⟨fun a j q1 q2 q3 q4 q5 => (k.1 a j q1 q2 q3 q4 q5).trans (h.1 a j q1 q2 q3 q4 q5), k.2.trans h.2⟩
def ClO (τ : Sto) (μ : Nat → Int) (n : Nat) (o : Option (Nat × Int)) : Prop := match o with
  | none => τ.1 84 8 = 0
  | some x => τ.1 84 8 = 1 ∧ τ.1 98 0 = zI (gw μ n x.1 x.2) ∧ τ.1 98 1 = zI x.1 ∧ τ.1 98 2 = zI x.2 ∧ τ.1 98 3 = zI (allP (pl μ x.1 x.2) n)
theorem ClO_f {τ υ : Sto} {μ : Nat → Int} {n : Nat} {o : Option (Nat × Int)} (f1 : υ.1 84 8 = τ.1 84 8) (f2 : υ.1 98 = τ.1 98) (h : ClO τ μ n o) : ClO υ μ n o := by
  cases o with
  | none => exact f1.trans h
  | some x =>
    unfold ClO at *
    rw [f1, f2]
    exact h
theorem c_note {τ : Sto} {μ : Nat → Int} {n s : Nat} {p : Int} {o : Option (Nat × Int)} (h : ClO τ μ n o) (G : GmP μ n s p o) (ok : gOk μ n s p) (b1 : -32000 ≤ gw μ n s p ∧ gw μ n s p ≤ 32000) (b2 : ∀ x, o = some x → -32000 ≤ gw μ n x.1 x.2 ∧ gw μ n x.1 x.2 ≤ 32000) : ∃ υ o', F_X4_noteGame τ (zI (gw μ n s p)) (zI s) (zI p) (zI (allP (pl μ s p) n)) = some υ ∧ GfF τ υ ∧ ClO υ μ n o' ∧ GmP μ n s (p + 1) o' := by
  have new : (o = none ∨ ∃ x, o = some x ∧ gw μ n x.1 x.2 < gw μ n s p) → ∃ υ o', F_X4_noteGame_17 τ (zI (gw μ n s p)) (zI s) (zI p) (zI (allP (pl μ s p) n)) = some υ ∧ GfF τ υ ∧ ClO υ μ n o' ∧ GmP μ n s (p + 1) o' := by
    intro hn
    unfold F_X4_noteGame_17
    rw [sw, sw, sw, sw, sw, show ix 0 = 0 from by decide, show ix 1 = 1 from by decide, show ix 2 = 2 from by decide, show ix 3 = 3 from by decide]
    refine ⟨_, some (s, p), rfl, ⟨fun a j q1 q2 q3 q4 q5 => ?_, rfl⟩, ⟨?_, ?_, ?_, ?_, ?_⟩, G_new G ok hn⟩
    · simp (disch := omega) only [si_rd, if_neg]
    · rw [si_rd, if_neg (by omega), si_rd, if_neg (by omega), si_rd, if_neg (by omega), si_rd, if_neg (by omega), si_rd, if_pos ⟨rfl, rfl⟩]
    · rw [si_rd, if_neg (by omega), si_rd, if_neg (by omega), si_rd, if_neg (by omega), si_rd, if_pos ⟨rfl, rfl⟩]
    · rw [si_rd, if_neg (by omega), si_rd, if_neg (by omega), si_rd, if_pos ⟨rfl, rfl⟩]
    · rw [si_rd, if_neg (by omega), si_rd, if_pos ⟨rfl, rfl⟩]
    · rw [si_rd, if_pos ⟨rfl, rfl⟩]
  unfold F_X4_noteGame
  cases o with
  | none =>
    rw [if_pos (show τ.1 84 8 = 0 from h)]
    exact new (Or.inl rfl)
  | some x =>
    have := b2 x rfl
    rw [h.1, if_neg (by decide), show ix 0 = 0 from by decide, h.2.1]
    by_cases q : gw μ n s p ≤ gw μ n x.1 x.2
    · rw [if_pos (zleT (by omega))]
      exact ⟨τ, some x, rfl, GfF_rfl τ, h, G_skip G (Or.inr ⟨x, rfl, q⟩)⟩
    · rw [if_neg (zleF (by omega))]
      exact new (Or.inr ⟨x, rfl, by omega⟩)
theorem pl_o {μ : Nat → Int} {s k : Nat} {p : Int} (h : k ≠ 7 * s + 1) : pl μ s p k = μ k := if_neg h
theorem pl_s (μ : Nat → Int) (s : Nat) (p : Int) : pl μ s p (7 * s + 1) = p := if_pos rfl
theorem c_prep {σ : Sto} {y t n c : Nat} {μ : Nat → Int} (hy : yC y) (hy2 : ¬ (59 ≤ y ∧ y ≤ 74)) (ht : tC t) (ht2 : 102 ≤ t) (h : YQ σ y μ n) (k : TR σ t μ n) (g : Gd μ n c) : ∃ (x1 x2 : Sto) (B : Int) (x3 : Sto) (q : Nat → Int), F_X8_begin σ t y = some x1 ∧ F_X8_prepare x1 (t + 6) = some (1, x2) ∧ BgF σ x2 ∧ F_X8_bound x2 = some (zI B) ∧ (-200000 ≤ B ∧ B ≤ 200000) ∧ vl n (prw μ) q ≤ B ∧ F_X8_seek x2 85 = some x3 ∧ FnF σ x3 85 ∧ Opt n 1 (lds μ fun _ _ => 0) (rms μ n fun _ _ => 0) lo0 hi0 (prw μ) q ∧ x3.1 85 2 = zI (vl n (prw μ) q) := by
  obtain ⟨x1, b1, b2, b3, b4⟩ := s_begin (fun _ _ => 0) hy hy2 ht (by omega) h k g
  have k1 := TR_b b2 (by omega) k
  have rb := rmc_bd (nb := 0) (un := fun _ _ => 0) g (fun b hb => by omega)
  have lb := lds_bd (nb := 0) (un := fun _ _ => 0) g (fun b hb => by omega)
  have B0 : SrB n 1 (lds μ fun _ _ => 0) lo0 hi0 (prw μ) := ⟨⟨g.1.1, g.1.2.1⟩, by omega, lb, fun s hs => h0b s, Ig_bd g.2.1 (Or.inl ⟨rfl, rfl⟩)⟩
  have fe : ∀ q, Fea n 1 (lds μ fun _ _ => 0) (rmc μ n fun _ _ => 0) lo0 hi0 q ↔ Fea n 1 (lds μ fun _ _ => 0) (rms μ n fun _ _ => 0) lo0 hi0 q := rmc_fe g (by omega) (fun s hs => Int.le_refl _)
  obtain ⟨v, x2, t1, t2, t3⟩ := s_prep (w := prw μ) B0 b3 b4 rb ht.2.2.1 (by omega) (t_pr k1)
  rcases t3 with ⟨rfl, st, rs, un, T, re, p0⟩ | ⟨rfl, t3⟩
  · obtain ⟨B, u1, u2, u3⟩ := s_bound B0 p0
    obtain ⟨x3, q, s1, s2, -, -, -, s5, s6, -⟩ := s_seek (a2 := 85) B0 p0 (by decide) (by omega)
    have t2' : BgF x1 x2 := t2
    exact ⟨x1, x2, B, x3, q, b1, t1, BgF_tr b2 t2', u1, u2, u3 q s5.1, s1, FnF_b (BgF_tr b2 t2') s2, Opt_fe fe s5, s6⟩
  · exact absurd ((fe _).2 (Fea0 (nb := 0) g (fun b hb => by omega))) (t3 _)
theorem c_playS {σ : Sto} {n c t s : Nat} {μ : Nat → Int} (l4 : t = 102 ∨ t = 110) (hy : YR σ 3 μ n) (ht : TR σ t μ n) (g : Gd μ n c) (hc : c + 1 ≤ 120) (hs : s < n) : ∀ (m p f : Nat) (τ : Sto) (o : Option (Nat × Int)), p + m = 21 → m < f → GfF σ τ → ClO τ μ n o → GmP μ n s p o → ∃ υ o', F_X4_playService_17 f τ t 3 (zI s) (zI (al μ n)) (zI (frP μ n)) (zI p) = some υ ∧ GfF σ υ ∧ ClO υ μ n o' ∧ GmP μ n s 21 o' := by
  have T := tC_t l4
  have h4 := g.1.2.1
  have A := al_bd0 g
  have web := we_bd g hs
  intro m
  induction m with
  | zero =>
    intro p f τ o k1 k2 fr co G
    obtain ⟨f, rfl⟩ : ∃ i, f = i + 1 := ⟨f - 1, by omega⟩
    refine ⟨τ, o, ?_, fr, co, ?_⟩
    · rw [F_X4_playService_17, zl20, if_pos (zltT (by omega))]
    · rw [show (21 : Int) = ((p : Nat) : Int) by omega]; exact G
  | succ m ih =>
    intro p f τ o k1 k2 fr co G
    obtain ⟨f, rfl⟩ : ∃ i, f = i + 1 := ⟨f - 1, by omega⟩
    have hp : 0 ≤ (p : Int) ∧ (p : Int) ≤ 20 := by omega
    have hyt : YR τ 3 μ n := YR_fr hy (fun a k i1 i2 => fr.1 a k (by omega) (by omega) (by omega) (by omega) (by omega))
    have htt : TR τ t μ n := TR_fr ht (fun a k i1 i2 => fr.1 a k (by omega) (by omega) (by omega) (by omega) (by omega))
    have sb := spw_bd g hs hp
    rw [F_X4_playService_17, zl20, if_neg (zltF (by omega)), if_pos yC_3.1, y_spentWith yC_3 T hyt htt g hs, Option.bind_some]
    by_cases q : spw μ n s p ≤ al μ n
    · have ok : gOk μ n s p := ⟨hs, hp.1, hp.2, q⟩
      rw [if_neg (zltF (by omega))]
      obtain ⟨y1, a1, a2, a3, a4⟩ := c_copy (Or.inr rfl) h4 hyt
      have gp := pl_Gd g hs hp
      have stp := EqN_sT (pl_N μ hs h4 p)
      have Y2 : YR (si y1 94 s (zI p)) 92 (pl μ s p) n := by
        refine ⟨fun u hu => ⟨?_, ?_, ?_⟩, fun r hr => ?_, ?_⟩
        · rw [si_rd, if_neg (by omega), pl_o (by omega)]; exact (a4.1 u hu).1
        · rw [si_rd]
          by_cases e : u = s
          · rw [if_pos ⟨rfl, e⟩, e, pl_s]
          · rw [if_neg (by omega), pl_o (by omega)]; exact (a4.1 u hu).2.1
        · rw [si_rd, if_neg (by omega), pl_o (by omega)]; exact (a4.1 u hu).2.2
        · rw [si_rd, if_neg (by omega), pl_o (by omega)]; exact a4.2.1 r hr
        · rw [si_rd, if_neg (by omega), pl_o (by omega)]; exact a4.2.2
      have f2 : GfF τ (si y1 94 s (zI p)) := ⟨fun a j q1 q2 q3 q4 q5 => by rw [si_rd, if_neg (by omega)]; exact a2 a j (by omega), a3⟩
      have t2 : TR (si y1 94 s (zI p)) t μ n := TR_fr htt (fun a k i1 i2 => f2.1 a k (by omega) (by omega) (by omega) (by omega) (by omega))
      have c84 : (si y1 94 s (zI p)).1 84 8 = τ.1 84 8 := by rw [si_rd, if_neg (by omega)]; exact a2 84 8 (by omega)
      have c98 : (si y1 94 s (zI p)).1 98 = τ.1 98 := by funext j; rw [si_rd, if_neg (by omega)]; exact a2 98 j (by omega)
      have co2 := ClO_f c84 c98 co
      have al0 := y_allP yC_92 T Y2 (TR_sT stp t2) gp
      have ab := allP_bd gp
      have fb := frP_bd g
      rw [a1, Option.bind_some]
      simp (disch := omega) only [zI_ib, zI_ix, Int.toNat_natCast]
      rw [if_pos (by omega), sw, if_pos T.1]
      show ∃ υ o', ((F_X9_together (si y1 94 s (zI p)) t (t + 6) (92 + 2)).bind _) = some υ ∧ _
      rw [al0, Option.bind_some]
      generalize si y1 94 s (zI p) = s1 at Y2 f2 t2 co2 al0 ⊢
      have on : ∃ υ o', F_X4_playService_94 (F_X4_playService_17 f) s1 t 3 (zI s) (zI (al μ n)) (zI (frP μ n)) (zI p) (zI (allP (pl μ s p) n)) = some υ ∧ GfF σ υ ∧ ClO υ μ n o' ∧ GmP μ n s 21 o' := by
        obtain ⟨x1, b1, b2, -, b3, b4⟩ := y_end yC_92 T Y2 (TR_sT stp t2) gp
        have gE := en_Gd gp hc
        have tx : TR x1 t (en (pl μ s p) n) n := TR_sT (sT_tr (en_sT _ h4) stp) (TR_fr t2 (fun a k i1 i2 => b3 a k (by omega) (by omega)))
        obtain ⟨x2, x3, B, x4, r, c1, c2, c3, c4, c5, c6, c7, c8, c9, c10⟩ := c_prep yC_92 (by omega) T (by omega) (YR_Q b2) tx gE
        have ev : vl n (prw (en (pl μ s p) n)) r = vl n (prw μ) (bR (en (pl μ s p) n) n) := by rw [vl_cg (bR_eq gE c9), gw_ev g hs hp]
        have f3 : GfF s1 x3 := ⟨fun a j q1 q2 q3 q4 q5 => by rw [c3.1 a q1]; exact b3 a j (by omega) (by omega), c3.2.trans b4⟩
        have co3 : ClO x3 μ n o := ClO_f (by rw [c3.1 84 (by omega)]; exact b3 84 8 (by omega) (by omega)) (by rw [c3.1 98 (by omega)]; funext j; exact b3 98 j (by omega) (by omega)) co2
        have f4 : GfF s1 x4 := ⟨fun a j q1 q2 q3 q4 q5 => by rw [c8.1 a (by omega) (by omega) (by omega)]; exact b3 a j (by omega) (by omega), c8.2.trans b4⟩
        have co4 : ClO x4 μ n o := ClO_f (by rw [c8.1 84 (by omega) (by omega) (by omega)]; exact b3 84 8 (by omega) (by omega)) (by rw [c8.1 98 (by omega) (by omega) (by omega)]; funext j; exact b3 98 j (by omega) (by omega)) co2
        obtain ⟨x5, o5, d1, d2, d3, d4⟩ := c_note co4 G ok (gw_bd g hc hs hp) (fun x hx => by rw [hx] at G; exact gw_bd g hc G.2.1.1 ⟨G.2.1.2.1, G.2.1.2.2.1⟩)
        have e40 : F_X4_playNext_40 x3 (zI s) (zI p) (zI (allP (pl μ s p) n)) = some x5 := by
          unfold F_X4_playNext_40
          rw [c7, Option.bind_some, c10, ev, zI_add, show allP (pl μ s p) n + vl n (prw μ) (bR (en (pl μ s p) n) n) = gw μ n s p from rfl, d1, Option.bind_some]
        have fin := ih (p + 1) f x5 o5 (by omega) (by omega) (GfF_tr fr (GfF_tr f2 (GfF_tr f4 d2))) d3 d4
        unfold F_X4_playService_94 F_X4_playNext
        rw [b1, Option.bind_some, c1, Option.bind_some, if_pos T.1, c2, Option.bind_some]
        dsimp only
        rw [if_neg (show ¬ (1 : Int32) = 0 from by decide)]
        cases o with
        | none =>
          rw [if_pos (show x3.1 84 8 = 0 from co3), e40, Option.bind_some, zI_s1]
          exact fin
        | some x =>
          have xb := gw_bd g hc G.2.1.1 ⟨G.2.1.2.1, G.2.1.2.2.1⟩
          rw [co3.1, if_neg (show ¬ (1 : Int32) = 0 from by decide), c4, Option.bind_some, show ix 0 = 0 from by decide, co3.2.1, zI_add]
          by_cases qb : allP (pl μ s p) n + B ≤ gw μ n x.1 x.2
          · rw [if_pos (zleT (by omega)), Option.bind_some, zI_s1]
            refine ih (p + 1) f x3 (some x) (by omega) (by omega) (GfF_tr fr (GfF_tr f2 f3)) co3 (G_skip G (Or.inr ⟨x, rfl, ?_⟩))
            rw [ev] at c6
            show allP (pl μ s p) n + vl n (prw μ) (bR (en (pl μ s p) n) n) ≤ _
            omega
          · rw [if_neg (zleF (by omega)), e40, Option.bind_some, zI_s1]
            exact fin
      cases o with
      | none =>
        rw [if_pos (show s1.1 84 8 = 0 from co2)]
        exact on
      | some x =>
        have xb := gw_bd g hc G.2.1.1 ⟨G.2.1.2.1, G.2.1.2.2.1⟩
        rw [co2.1, if_neg (by decide), show ix 0 = 0 from by decide, co2.2.1, zI_add]
        by_cases q2 : allP (pl μ s p) n + frP μ n ≤ gw μ n x.1 x.2
        · rw [if_pos (zleT (by omega)), zI_s1]
          refine ih (p + 1) f s1 (some x) (by omega) (by omega) (GfF_tr fr f2) co2 (G_skip G (Or.inr ⟨x, rfl, ?_⟩))
          have := vP_fr (μ := μ) (bR_bd (en_Gd gp hc))
          show allP (pl μ s p) n + vl n (prw μ) (bR (en (pl μ s p) n) n) ≤ _
          omega
        · rw [if_neg (zleF (by omega))]
          exact on
    · rw [if_pos (zltT (by omega))]
      refine ⟨τ, o, rfl, fr, co, G_brk G (by omega) (fun q' hq ho => q ?_)⟩
      have := ho.2.2.2
      unfold spw at this ⊢
      have m := Int.mul_le_mul_of_nonneg_right (a := (p : Int) - μ (7 * s + 1)) (b := q' - μ (7 * s + 1)) (c := we μ s) (by omega) web.1
      omega
theorem c_play {σ σM : Sto} {n nb t hd ac : Nat} {μ : Nat → Int} {un : Nat → Nat → Int} (l : Ld σ σM n nb t hd ac μ un) (c : Ca σ n nb μ un) : ∃ τ o, F_X4_play σ t 3 = some (if o = none then 0 else 1, τ) ∧ AgC σ τ ∧ Ca τ n nb μ un ∧ ClO τ μ n o ∧ GmP μ n n 0 o := by
  obtain ⟨⟨l1, l2, l3, l4⟩, ⟨g, g8, g9⟩, -, ⟨hy, hyn⟩, ht, hb, -⟩ := l
  have T := tC_t l4
  have h4 := g.1.2.1
  have hc : (μ 32).toNat + 1 ≤ 120 := by omega
  have fin : ∀ τ o, GfF σ τ → τ.1 84 7 = 1 → ClO τ μ n o → GmP μ n n 0 o → AgC σ τ ∧ Ca τ n nb μ un ∧ ClO τ μ n o ∧ GmP μ n n 0 o := by
    intro τ o f e7 co G
    refine ⟨⟨fun a i q => f.1 a i (by omega) (by omega) (by omega) (by omega) (by omega), f.2⟩, ?_, co, G⟩
    obtain ⟨⟨o1, o2, o3, o4, o5⟩, cw, cg, cn⟩ := c
    refine ⟨⟨?_, ?_, ?_, ?_, ?_⟩, ?_, Or.inr ⟨e7, ?_⟩, ?_⟩
    · unfold RwK at *; simp (disch := omega) only [f.1]; exact o1
    · unfold RwK at *; simp (disch := omega) only [f.1]; exact o2
    · unfold RwK at *; simp (disch := omega) only [f.1]; exact o3
    · unfold RwK at *; simp (disch := omega) only [f.1]; exact o4
    · simp (disch := omega) only [f.1]; exact o5
    · unfold CW YQ at *; simp (disch := omega) only [f.1]; exact cw
    · cases o with
      | none => exact Or.inl ⟨co, fun s p ho => G s p (Or.inl ho.1) ho⟩
      | some x => exact Or.inr ⟨co.1, x.1, x.2, ⟨G.2.1, fun u q ho => G.2.2 u q (Or.inl ho.1) ho⟩, co.2⟩
    · unfold CN at *; simp (disch := omega) only [f.1]; exact cn
  have loop : ∀ (d s f : Nat) (τ : Sto) (o : Option (Nat × Int)), s + d = n → d < f → GfF σ τ → ClO τ μ n o → GmP μ n s 0 o → ∃ υ o', F_X4_play_14 f τ t 3 (zI s) = some (if o' = none then 0 else 1, υ) ∧ AgC σ υ ∧ Ca υ n nb μ un ∧ ClO υ μ n o' ∧ GmP μ n n 0 o' := by
    intro d
    induction d with
    | zero =>
      intro s f τ o k1 k2 fr co G
      obtain ⟨f, rfl⟩ : ∃ i, f = i + 1 := ⟨f - 1, by omega⟩
      have e : s = n := k1
      subst e
      have co1 : ClO (si τ 84 7 1) μ s o := ClO_f (by rw [si_rd, if_neg (by omega)]) (by funext j; rw [si_rd, if_neg (by omega)]) co
      refine ⟨si τ 84 7 1, o, ?_, fin _ o (GfF_tr fr ⟨fun a j q1 q2 q3 q4 q5 => by rw [si_rd, if_neg (by omega)], rfl⟩) (by rw [si_rd, if_pos ⟨rfl, rfl⟩]) co1 G⟩
      rw [F_X4_play_14, if_pos T.1, fr.1 t 0 (by omega) (by omega) (by omega) (by omega) (by omega), ht.1.1, if_pos (zleT (by omega)), sw]
      cases o with
      | none => rw [show (si τ 84 7 1).1 84 8 = 0 from co1, if_pos (Or.inl rfl)]; rfl
      | some x => rw [co1.1, if_pos (Or.inr rfl)]; rfl
    | succ d ih =>
      intro s f τ o k1 k2 fr co G
      obtain ⟨f, rfl⟩ : ∃ i, f = i + 1 := ⟨f - 1, by omega⟩
      have hs : s < n := by omega
      have hyt : YR τ 3 μ n := YR_fr hy (fun a k i1 i2 => fr.1 a k (by omega) (by omega) (by omega) (by omega) (by omega))
      have htt : TR τ t μ n := TR_fr ht (fun a k i1 i2 => fr.1 a k (by omega) (by omega) (by omega) (by omega) (by omega))
      obtain ⟨υ, o', u1, u2, u3, u4⟩ := c_playS l4 hy ht g hc hs 21 0 FU τ o (by omega) (FU_lt (by omega)) fr co G
      have u1' : F_X4_playService_17 FU τ t 3 (zI s) (zI (al μ n)) (zI (frP μ n)) 0 = some υ := u1
      have e : F_X4_playService τ t 3 (zI s) = some υ := by
        unfold F_X4_playService
        rw [if_pos yC_3.1, y_allowed yC_3 T hyt htt g, Option.bind_some, c_freeP T htt g.2.1 h4, Option.bind_some, u1']
      rw [F_X4_play_14, if_pos T.1, fr.1 t 0 (by omega) (by omega) (by omega) (by omega) (by omega), ht.1.1, if_neg (zleF (by omega)), e, Option.bind_some, zI_s1]
      exact ih (s + 1) f υ o' (by omega) (by omega) u2 u3 (G_row u4)
  unfold F_X4_play
  rcases c.2.2.1 with k | ⟨k1, k2⟩
  · rw [if_pos k, sw]
    exact loop n 0 FU _ none (by omega) (FU_lt (by omega)) ⟨fun a j q1 q2 q3 q4 q5 => by rw [si_rd, if_neg (by omega)], rfl⟩ (show (si σ 84 8 0).1 84 8 = 0 by rw [si_rd, if_pos ⟨rfl, rfl⟩]) (fun u q hc' ho => by have := ho.2; omega)
  · rw [if_neg (by rw [k1]; decide)]
    rcases k2 with ⟨k2, k3⟩ | ⟨k2, s, p, k3, k4⟩
    · refine ⟨σ, none, by rw [k2, if_pos (Or.inl rfl)]; rfl, AgC_rfl σ, c, k2, fun u q _ => k3 u q⟩
    · refine ⟨σ, some (s, p), by rw [k2, if_pos (Or.inr rfl)]; rfl, AgC_rfl σ, c, ⟨k2, k4⟩, ⟨Or.inl k3.1.1, k3.1, fun u q _ ho => k3.2 u q ho⟩⟩
theorem GmP_un {μ : Nat → Int} {n : Nat} {o o' : Option (Nat × Int)} (h : GmP μ n n 0 o) (k : GmP μ n n 0 o') : o = o' := by
  cases o with
  | none =>
    cases o' with
    | none => rfl
    | some x => exact absurd k.2.1 (h x.1 x.2 k.1)
  | some x =>
    cases o' with
    | none => exact absurd h.2.1 (k x.1 x.2 h.1)
    | some y =>
      have a := h.2.2 y.1 y.2 k.1 k.2.1
      have b := k.2.2 x.1 x.2 h.1 h.2.1
      have e : gw μ n y.1 y.2 = gw μ n x.1 x.2 := by omega
      have a2 := a.2 e
      have b2 := b.2 e.symm
      have e1 : x.1 = y.1 := by omega
      have e2 : x.2 = y.2 := by omega
      exact congrArg some (Prod.ext e1 e2)
theorem sp_game : Sp_game Inv := by
  intro σC σM i h
  have h := Inv_0 h
  obtain ⟨z, hz1, hz2, rfl⟩ := zI_of i
  unfold F_X11_game F_X12_game
  rw [sw]
  generalize si σM 0 0 0 = s1 at h ⊢
  rcases h.2.2.2 with ⟨u1, u2⟩ | ⟨n, nb, t, hd, ac, μ, un, l, ca⟩
  · refine q_fin h (w := 1) (by decide) (v := -1) ?_ ?_
    · rw [if_pos u1]; rfl
    · rw [if_pos u2]; rfl
  · have l0 := l
    obtain ⟨⟨l1, l2, l3, l4⟩, ⟨g, g8, g9⟩, hm, ⟨hy, hyn⟩, ht, hb, -⟩ := l0
    have mz : F_X12_in s1 (zI z) 0 3 = some (if 0 ≤ z ∧ z ≤ 3 then zI 1 else zI 0) := m_in s1 ⟨hz1, hz2⟩ (b := 0) (c := 3) (by omega) (by omega)
    rw [if_neg (show ¬ σC.1 0 13 = 0 by rw [l1]; decide), if_neg (show ¬ s1.1 0 25 = 0 by rw [l2]; decide), mz, Option.bind_some]
    by_cases q : 0 ≤ z ∧ z ≤ 3
    · rw [if_neg (zlt0F (by omega)), if_pos (show zI z ≤ 3 from by rw [zl3]; exact zleT (by omega)), if_pos q, if_neg (show ¬ zI 1 = 0 by decide), l3, Option.bind_some]
      obtain ⟨j, rfl⟩ : ∃ j : Nat, z = j := ⟨z.toNat, by omega⟩
      obtain ⟨τC, o, a1, a2, a3, a4, a5⟩ := c_play l ca
      obtain ⟨τM, o', b1, b2, b3, b4⟩ := m_plays (UnM_l l h.2.2.1) hm g (by omega)
      have e := GmP_un a5 b4
      subst e
      rw [a1, Option.bind_some, b1, Option.bind_some]
      cases o with
      | none =>
        refine f_fin h l a2 b2 a3 (w := 6) (by decide) (v := -1) ?_ ?_
        · rfl
        · rfl
      | some x =>
        dsimp only
        rw [if_neg (show ¬ (some x = none) from by simp), if_neg (show ¬ (1 : Int32) = 0 by decide), if_neg (show ¬ (1 : Int32) = 0 by decide)]
        simp (disch := omega) only [zI_ib, zI_ix, Int.toNat_natCast]
        rw [if_pos (by omega)]
        obtain ⟨c0, c1, c2, c3, c4⟩ := a4
        obtain ⟨d1, d2, d3, d4⟩ := b3
        rcases (show j = 0 ∨ j = 1 ∨ j = 2 ∨ j = 3 by omega) with rfl | rfl | rfl | rfl
        · refine f_fin h l a2 b2 a3 (w := 0) (by decide) (v := zI (gw μ n x.1 x.2)) ?_ ?_
          · rw [c1]; rfl
          · rw [d1]; rfl
        · refine f_fin h l a2 b2 a3 (w := 0) (by decide) (v := zI x.1) ?_ ?_
          · rw [c2]; rfl
          · rw [d2]; rfl
        · refine f_fin h l a2 b2 a3 (w := 0) (by decide) (v := zI x.2) ?_ ?_
          · rw [c3]; rfl
          · rw [d3]; rfl
        · refine f_fin h l a2 b2 a3 (w := 0) (by decide) (v := zI (allP (pl μ x.1 x.2) n)) ?_ ?_
          · rw [c4]; rfl
          · rw [d4]; rfl
    · refine q_fin h (w := 1) (by decide) (v := -1) ?_ ?_
      · by_cases q3 : z < 0
        · rw [if_pos (show zI z < 0 from by rw [zl0]; exact zltT (by omega))]; rfl
        · rw [if_neg (zlt0F (by omega)), if_neg (show ¬ zI z ≤ 3 from by rw [zl3]; exact zleF (by omega))]; rfl
      · rw [if_neg q, if_pos (show zI 0 = 0 by decide)]; rfl
