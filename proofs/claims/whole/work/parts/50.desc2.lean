/-! THE CLASS'S SEARCH: GOING DOWN, ALL SERVICES -/
theorem s_desc {n L : Nat} {ld : Nat → Nat → Int} {lo hi R0 : Nat → Int} {w : Nat → Nat → Int} {st : Nat → Nat} {rs : Nat → Nat → Int} {un : Nat → Nat → Nat} {T : Int} {re : Nat → Int} (b : SrB n L ld lo hi w) (P : StpR n lo hi w st rs un) (Q : SrQ n ld lo w st rs T re) (r0 : ∀ c, c < L → 0 ≤ R0 c ∧ R0 c ≤ 16000) :
    ∀ (dd s : Nat) (σ : Sto) (r : Nat → Int) (G : Int), s < n → n ≤ s + dd → SrD σ n L ld lo hi → SrS σ n lo hi w st rs un → SrT σ n T re → σ.1 63 14 = zI G → (-20000 ≤ G ∧ G ≤ 40000) → (∀ t, t < s → ∃ i : Nat, i < st t ∧ σ.1 72 t = zI i ∧ r t = lo t + rs t i) → SrR σ L (fun c => R0 c - sz s (fun t => ld c t * (r t - lo t))) → (∀ c, c < L → 0 ≤ sz s (fun t => ld c t * (r t - lo t)) ∧ sz s (fun t => ld c t * (r t - lo t)) ≤ R0 c) →
    ∃ τ G', F_X8_descend dd σ (zI s) (zI (sz s (fun t => w t (r t).toNat))) = some τ ∧ SrG σ τ s ∧ SrR τ L (fun c => R0 c - sz s (fun t => ld c t * (r t - lo t))) ∧ τ.1 63 14 = zI G' ∧ (-20000 ≤ G' ∧ G' ≤ 40000) ∧ BsR (EnRS n lo st rs) n w (CCr n L ld R0 lo st rs s r) G (σ.1 73) G' (τ.1 73) := by
  intro dd
  induction dd with
  | zero => intro s σ r G h1 h2; omega
  | succ dd ih =>
    intro s σ r G hs hd D S Tt hG bG hr rm rz
    have h4 := b.1
    have hL := b.2.1
    have Ps := P s hs
    obtain ⟨f, f1, f2, f3, f4⟩ := s_high b D S rm (fun c hc => by have := r0 c hc; have := rz c hc; omega) hs
    obtain ⟨u1, u2, u3, u4⟩ := Ps.2.2.2 f f2
    have hr' : ∀ t, t < s → ∃ i, i < st t ∧ r t = lo t + rs t i := fun t ht => by obtain ⟨i, i1, _, i2⟩ := hr t ht; exact ⟨i, i1, i2⟩
    have gb := g_bd b P (r := r) (s := s) (by omega) hr'
    have hq : ∀ q, CCr n L ld R0 lo st rs s r q → ∃ i, i ≤ un s f ∧ q s = lo s + rs s i := by
      intro q h
      obtain ⟨i, i1, i2⟩ := h.2.1 s hs
      refine ⟨i, u4 i i1 ?_, i2⟩
      refine f4 (rs s i) (Ps.2.1 i i1).2 (fun c hc => ?_)
      have a := s_fits b P h.2 hs hc
      rw [sz_cg (g := fun t => ld c t * (r t - lo t)) (fun t ht => by rw [h.1 t ht]), show q s - lo s = rs s i by omega] at a
      omega
    have mono : ∀ i, i ≤ un s f → rs s i ≤ f := by
      intro i hi
      by_cases e : i = un s f
      · rw [e]; exact u2
      · have := (Ps.2.2.1 i (un s f) (by omega) u1).1
        omega
    have fits : ∀ i, i ≤ un s f → ∀ c, c < L → 0 ≤ ld c s * rs s i ∧ ld c s * rs s i ≤ R0 c - sz s (fun t => ld c t * (r t - lo t)) := by
      intro i hi c hc
      have a := f3 c hc
      have e := (b.2.2.1 c hc s hs)
      have m := Int.mul_le_mul_of_nonneg_left (mono i hi) e.1
      have nn := Int.mul_nonneg e.1 (Ps.2.1 i (by omega)).1
      omega
    rw [F_X8_descend, f1, Option.bind_some, D.1]
    simp (disch := omega) only [zl1, zI_sub, zI_lt]
    by_cases hl : (s : Int) < n - 1
    · rw [if_pos hl]
      have key : ∀ (m i k : Nat) (τ : Sto) (G1 : Int), i + m = un s f + 1 → m < k → SrG σ τ s → SrR τ L (fun c => R0 c - sz s (fun t => ld c t * (r t - lo t))) → τ.1 63 14 = zI G1 → (-20000 ≤ G1 ∧ G1 ≤ 40000) → BsR (EnRS n lo st rs) n w (fun q => CCr n L ld R0 lo st rs s r q ∧ ∃ j, j < i ∧ q s = lo s + rs s j) G (σ.1 73) G1 (τ.1 73) →
          ∃ υ G', F_X8_descend_33 (F_X8_descend dd) k τ (zI s) (zI (sz s (fun t => w t (r t).toNat))) (zI (un s f)) (zI (s * 21)) (zI i) = some υ ∧ SrG σ υ s ∧ SrR υ L (fun c => R0 c - sz s (fun t => ld c t * (r t - lo t))) ∧ υ.1 63 14 = zI G' ∧ (-20000 ≤ G' ∧ G' ≤ 40000) ∧ BsR (EnRS n lo st rs) n w (CCr n L ld R0 lo st rs s r) G (σ.1 73) G' (υ.1 73) := by
        intro m
        induction m with
        | zero =>
          intro i k τ G1 h1 h2 g rm1 e1 e2 B
          obtain ⟨k, rfl⟩ : ∃ j, k = j + 1 := ⟨k - 1, by omega⟩
          have p21 := Ps.1
          refine ⟨τ, G1, ?_, g, rm1, e1, e2, BsR_cg (fun q => ⟨fun h => h.1, fun h => ⟨h, ?_⟩⟩) B⟩
          · rw [F_X8_descend_33, if_pos]
            rw [zI_lt (by omega) (by omega) (by omega) (by omega)]
            omega
          · obtain ⟨j, j1, j2⟩ := hq q h
            exact ⟨j, by omega, j2⟩
        | succ m ih2 =>
          intro i k τ G1 h1 h2 g rm1 e1 e2 B
          obtain ⟨k, rfl⟩ : ∃ j, k = j + 1 := ⟨k - 1, by omega⟩
          have p21 := Ps.1
          have it : i < st s := by omega
          have wb := w_bd b P hs it
          have D1 := SrD_fx g.1 D
          have S1 := SrS_fx g.1 S
          have T1 := SrT_g g Tt
          have Si := (S1 s hs).2.1 i it
          have ft := fits i (by omega)
          have q3 := Q.2.2.1 (s + 1) (by omega)
          have qT := Q.1
          have ft0 := ft 0 (by omega)
          have rz0 := rz 0 (by omega)
          have r00 := r0 0 (by omega)
          have Tb := mul_bd (a := 1024) (b := 16000) qT.1 qT.2 (show 0 ≤ R0 0 - sz s (fun t => ld 0 t * (r t - lo t)) - ld 0 s * rs s i by omega) (by omega)
          have d0 := D1.2.2.1 0 (by omega) s hs
          rw [Nat.mul_zero, Nat.zero_add] at d0
          have cu : ∀ q, (CCr n L ld R0 lo st rs s r q ∧ ∃ j, j < i ∧ q s = lo s + rs s j) ∨ CCr n L ld R0 lo st rs (s + 1) (rpd r s (lo s + rs s i)) q ↔ CCr n L ld R0 lo st rs s r q ∧ ∃ j, j < i + 1 ∧ q s = lo s + rs s j := by
            intro q
            constructor
            · rintro (⟨h, j, j1, j2⟩ | h)
              · exact ⟨h, j, by omega, j2⟩
              · refine ⟨⟨fun t ht => ?_, h.2⟩, i, by omega, ?_⟩
                · rw [h.1 t (by omega), rpd_o _ _ (by omega)]
                · rw [h.1 s (by omega), rpd_s]
            · rintro ⟨h, j, j1, j2⟩
              by_cases e : j = i
              · refine Or.inr ⟨fun t ht => ?_, h.2⟩
                by_cases e3 : t = s
                · rw [e3, rpd_s, j2, e]
                · rw [rpd_o _ _ e3]; exact h.1 t (by omega)
              · exact Or.inl ⟨h, j, by omega, j2⟩
          have cl : ∀ p q, (CCr n L ld R0 lo st rs s r p ∧ ∃ j, j < i ∧ p s = lo s + rs s j) → CCr n L ld R0 lo st rs (s + 1) (rpd r s (lo s + rs s i)) q → Lex n p q := by
            rintro p q ⟨h, j, j1, j2⟩ h5
            refine ⟨s, hs, fun t ht => ?_, ?_⟩
            · rw [h.1 t ht, h5.1 t (by omega), rpd_o _ _ (by omega)]
            · rw [j2, h5.1 s (by omega), rpd_s]
              have := (Ps.2.2.1 j i j1 it).1
              omega
          have ew : sz s (fun t => w t (r t).toNat) + w s (lo s + rs s i).toNat = sz (s + 1) (fun t => w t (rpd r s (lo s + rs s i) t).toNat) := by
            rw [sz, rpd_s, sz_rpd (f := fun t x => w t x.toNat)]
          have el : ∀ c, sz (s + 1) (fun t => ld c t * (rpd r s (lo s + rs s i) t - lo t)) = sz s (fun t => ld c t * (r t - lo t)) + ld c s * rs s i := by
            intro c
            rw [sz, rpd_s, sz_rpd (f := fun t x => ld c t * (x - lo t)), show lo s + rs s i - lo s = rs s i by omega]
          rw [F_X8_descend_33]
          simp (disch := omega) only [zl1, zl0, zI_lt, zI_add, zI_ib, zI_ix, Int.toNat_natCast]
          rw [if_neg (by omega), if_pos (by omega), if_pos (by omega), sw, if_pos (by omega), show ((s : Int) * 21 + i).toNat = 21 * s + i by omega, show ((s : Int) + 1).toNat = s + 1 by omega, Si.1, Si.2, d0, show Int.toNat 0 = 0 from rfl, rm1 0 (by omega), e1, T1.1, T1.2 (s + 1) (by omega)]
          simp only [zI_add, zI_sub, zI_mul, zI_shl8, zl256]
          simp (disch := omega) only [zI_lt]
          by_cases pq : (sz s (fun t => w t (r t).toNat) + w s (lo s + rs s i).toNat - G1) * 256 + re (s + 1) + T * (R0 0 - sz s (fun t => ld 0 t * (r t - lo t)) - ld 0 s * rs s i) < 256
          · rw [if_pos pq, show ((i : Int) + 1) = ((i + 1 : Nat) : Int) by omega]
            refine ih2 (i + 1) k τ G1 (by omega) (by omega) g rm1 e1 e2 (BsR_cg cu (BsR_tr B (BsR_none (fun q h => ?_)) cl))
            refine s_prune b Q (s := s + 1) (by omega) h.2 (R0 := R0) (G := G1) ?_
            rw [sz_cg (f := fun t => w t (q t).toNat) (g := fun t => w t (rpd r s (lo s + rs s i) t).toNat) (fun t ht => by rw [h.1 t ht]), ← ew, sz_cg (f := fun t => ld 0 t * (q t - lo t)) (g := fun t => ld 0 t * (rpd r s (lo s + rs s i) t - lo t)) (fun t ht => by rw [h.1 t ht]), el, ← Int.sub_sub]
            exact pq
          · rw [if_neg pq, if_pos (by omega), sw]
            have g2 : SrG τ (si τ 72 s (zI i)) s := ⟨SrF_si τ 72 s _ (by omega), by funext j; rw [si_rd, if_neg (by omega)], by rw [si_rd, if_neg (by omega)], fun t ht => by rw [si_rd, if_neg (by omega)]⟩
            have D2 := SrD_fx g2.1 D1
            have S2 := SrS_fx g2.1 S1
            have rm2 : SrR (si τ 72 s (zI i)) L (fun c => R0 c - sz s (fun t => ld c t * (r t - lo t))) := fun c hc => by rw [si_rd, if_neg (by omega)]; exact rm1 c hc
            obtain ⟨x1, a1, a2, a3⟩ := s_take b D2 rm2 (s := s) (i := i) (x := rs s i) 1 hs (by omega) ((S2 s hs).2.1 i it).1
            rw [a1, Option.bind_some, ew, show ((s : Int) + 1) = ((s + 1 : Nat) : Int) by omega]
            have g3 := SrG_tr g2 (SrE_G s a2)
            have D3 := SrD_fx (SrE_F a2) D2
            have S3 := SrS_fx (SrE_F a2) S2
            have T3 := SrT_g g3 T1
            have v14 : x1.1 63 14 = zI G1 := by rw [a2.1 63 (by decide), si_rd, if_neg (by omega)]; exact e1
            have v72 : x1.1 72 s = zI i := by rw [a2.1 72 (by decide), si_rd, if_pos ⟨rfl, rfl⟩]
            have v73 : x1.1 73 = τ.1 73 := by rw [a2.1 73 (by decide)]; funext j; rw [si_rd, if_neg (by omega)]
            obtain ⟨x2, G2, c1, c2, c3, c4, c5, c6⟩ := ih (s + 1) x1 (rpd r s (lo s + rs s i)) G1 (by omega) (by omega) D3 S3 T3 v14 e2 (fun t ht => by
              by_cases e3 : t = s
              · subst e3
                exact ⟨i, it, v72, rpd_s _ _ _⟩
              · obtain ⟨j, j1, j2, j3⟩ := hr t (by omega)
                refine ⟨j, j1, ?_, by rw [rpd_o _ _ e3]; exact j3⟩
                rw [g3.2.2.2 t (by omega), g.2.2.2 t (by omega)]; exact j2) (fun c hc => by
              rw [a3 c hc]; dsimp only; rw [el, Int.one_mul]; congr 1; omega) (fun c hc => by
              rw [el]; have := ft c hc; have := rz c hc; omega)
            rw [c1, Option.bind_some]
            have D4 := SrD_fx c2.1 D3
            have S4 := SrS_fx c2.1 S3
            obtain ⟨x3, d1, d2, d3⟩ := s_take b D4 c3 (s := s) (i := i) (x := rs s i) (-1) hs (by omega) ((S4 s hs).2.1 i it).1
            rw [zI_neg, d1, Option.bind_some, show ((i : Int) + 1) = ((i + 1 : Nat) : Int) by omega]
            have g4 : SrG σ x3 s := SrG_tr g (SrG_tr g3 (SrG_tr (SrG_lt c2 (by omega)) (SrE_G s d2)))
            rw [v73] at c6
            refine ih2 (i + 1) k x3 G2 (by omega) (by omega) g4 (fun c hc => ?_) (by rw [d2.1 63 (by decide)]; exact c4) c5 ?_
            · rw [d3 c hc]; dsimp only; rw [el, Int.neg_mul, Int.one_mul, Int.mul_neg]; congr 1; omega
            · rw [d2.1 73 (by decide)]
              exact BsR_cg cu (BsR_tr B c6 cl)
      rw [zl21, zI_mul, zl0]
      exact key (un s f + 1) 0 FU σ G (by omega) (FU_lt (by have := Ps.1; omega)) (SrG_rfl σ s) rm hG bG (BsR_none (fun q h => by obtain ⟨_, j, j1, _⟩ := h; omega))
    · rw [if_neg hl]
      have hn : n = s + 1 := by omega
      obtain ⟨τ, G', t1, t2, t3, t4, t5, t6⟩ := s_end b P (R0 := R0) (r := r) (s := s) (top := un s f) (L := L) hn S hG bG hr u1 ⟨fun t ht => by
          by_cases e3 : t = s
          · exact ⟨un s f, by rw [e3]; exact u1, by rw [e3, rpd_s]⟩
          · obtain ⟨j, j1, j2⟩ := hr' t (by omega)
            exact ⟨j, j1, by rw [rpd_o _ _ e3]; exact j2⟩, fun c hc => by
          have := (fits (un s f) (Nat.le_refl _) c hc).2
          rw [hn, sz, rpd_s, sz_rpd (f := fun t x => ld c t * (x - lo t)), show lo s + rs s (un s f) - lo s = rs s (un s f) by omega]
          omega⟩ hq
      rw [t1, Option.bind_some]
      refine ⟨τ, G', rfl, t2, fun c hc => ?_, t4, t5, t6⟩
      rw [t3]
      exact rm c hc
