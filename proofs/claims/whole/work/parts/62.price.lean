/-! ACTS ON NEW PRICES -/
theorem c_fresh (σ : Sto) : ∃ τ, F_X11_forgetFresh σ = some τ ∧ (∀ a k, a ≠ 84 → τ.1 a k = σ.1 a k) ∧ (∀ k, k ≠ 7 → k ≠ 9 → τ.1 84 k = σ.1 84 k) ∧ τ.2 = σ.2 ∧ τ.1 84 7 = 0 ∧ τ.1 84 9 = 0 := by
  unfold F_X11_forgetFresh F_X4_forgetFresh
  simp only [sw, Option.bind_some]
  refine ⟨_, rfl, fun a k q => ?_, fun k q1 q2 => ?_, rfl, ?_, ?_⟩
  · rw [si_rd, if_neg (by omega), si_rd, if_neg (by omega)]
  · rw [si_rd, if_neg (by omega), si_rd, if_neg (by omega)]
  · simp only [si_rd]; simp
  · simp only [si_rd]; simp
theorem RwK_w {σ : Sto} {r n : Nat} {op : (Nat → Int) → Prop} {w w' : Nat → Nat → Int} (h : ∀ q, vl n w q = vl n w' q) (k : RwK σ r n op w) : RwK σ r n op w' := by
  unfold RwK at *
  simp only [← h]
  exact k
theorem Ca_N {σ τ : Sto} {n nb : Nat} {μ ν : Nat → Int} {un : Nat → Nat → Int} (h4 : n ≤ 4) (e : EqN ν μ n) (c : Ca σ n nb μ un) (f : ∀ a k, 75 ≤ a → a ≤ 98 → a ≠ 84 → τ.1 a k = σ.1 a k) (f2 : ∀ k, k ≠ 7 → k ≠ 9 → τ.1 84 k = σ.1 84 k) (k7 : τ.1 84 7 = 0) (k9 : τ.1 84 9 = 0) : Ca τ n nb ν un := by
  obtain ⟨⟨c1, c2, c3, c4, c5⟩, cw, cg, cn⟩ := c
  have ep : ∀ q, vl n (prw μ) q = vl n (prw ν) q := fun q => (vl_eq (EqN_prw (EqN_sT e)) q).symm
  have eg : ∀ q, vl n (gow μ) q = vl n (gow ν) q := fun q => (vl_eq (EqN_gow (EqN_sT e)) q).symm
  refine ⟨⟨?_, ?_, ?_, ?_, ?_⟩, ?_, Or.inl k7, Or.inl k9⟩
  · rw [EqN_opB e]
    have := RwK_w ep c1
    unfold RwK at *
    simp (disch := omega) only [f]
    exact this
  · rw [EqN_opF e]
    have := RwK_w eg c2
    unfold RwK at *
    simp (disch := omega) only [f]
    exact this
  · rw [EqN_opG e]
    have := RwK_w ep c3
    unfold RwK at *
    simp (disch := omega) only [f]
    exact this
  · rcases c4 with c4 | ⟨d, d1, d2, d3, d4⟩
    · exact Or.inl (by rw [f _ _ (by omega) (by omega) (by omega)]; exact c4)
    · refine Or.inr ⟨d, d1, d2, by rw [f _ _ (by omega) (by omega) (by omega)]; exact d3, ?_⟩
      rw [EqN_opS e]
      have := RwK_w ep d4
      unfold RwK at *
      simp (disch := omega) only [f]
      exact this
  · rw [f _ _ (by omega) (by omega) (by omega), EqN_cnt e n 0 _ (by omega), EqN_al e]
    exact c5
  · rcases cw with cw | ⟨k, k1, k2, k3, k5⟩
    · exact Or.inl (by rw [f2 _ (by omega) (by omega)]; exact cw)
    · have a := ah_N h4 e k
      refine Or.inr ⟨k, k1, by rw [f2 _ (by omega) (by omega)]; exact k2, ⟨fun s hs => ?_, fun r hr => ?_, ?_⟩, fun j hj => ?_⟩
      · rw [f _ _ (by omega) (by omega) (by omega), f _ _ (by omega) (by omega) (by omega), EqN_0 a hs, a.1 s hs 5 (by omega) (by omega)]; exact k3.1 s hs
      · rw [f _ _ (by omega) (by omega) (by omega), a.2.1 r hr]; exact k3.2.1 r hr
      · rw [f _ _ (by omega) (by omega) (by omega), a.2.2]; exact k3.2.2
      · obtain ⟨p1, p2, p3, p4⟩ := paP_N h4 e j
        rw [f _ _ (by omega) (by omega) (by omega), f _ _ (by omega) (by omega) (by omega), f _ _ (by omega) (by omega) (by omega), f _ _ (by omega) (by omega) (by omega), p1, p2, p3, p4]
        exact k5 j hj
def AcD (σ τ : Sto) : Prop := (∀ a k, (a = 0 ∧ k ≠ 18) ∨ a = 1 ∨ a = 101 → τ.1 a k = σ.1 a k) ∧ τ.2 = σ.2
theorem Inv_act2 {σC σM τC τM : Sto} {n nb t h ac : Nat} {μ : Nat → Int} {un : Nat → Nat → Int} (H : Inv σC σM) (hC : AcD σC τC) (hM : AcM σM τM) (l : Ld τC τM n nb t h ac μ un) (c : Ca τC n nb μ un) : Inv (si τC 0 18 (zI 0)) (si (si τM 0 1 (zI 0)) 0 2 (-1)) := by
  have aC : AgC τC (si τC 0 18 (zI 0)) := AgC_si _ 0 18 _ (by omega)
  have aM : AgM τM (si (si τM 0 1 (zI 0)) 0 2 (-1)) := AgM_tr (AgM_si _ 0 1 _ (by omega)) (AgM_si _ 0 2 _ (by omega))
  obtain ⟨⟨g1, g2, g3, g4⟩, ⟨q1, q2, q3⟩, ⟨z1, z2⟩, -⟩ := H
  unfold AcM at hM
  have G : Gl τC τM := by
    refine ⟨?_, ?_, ?_, h, l.2.2.2.2.2.2.2.2.1.2.1, l.2.2.2.2.2.2.2.2.1.2.2.1⟩
    · unfold Tp at *
      simp (disch := omega) only [hC.1, hM]
      exact g1
    · unfold Wr at *
      simp (disch := omega) only [hC.1, hM]
      exact g2
    · unfold Tn at *
      rw [hC.2]
      exact g3
  refine ⟨Gl_ag aC aM G, ⟨?_, ?_, ?_⟩, Mz_ag aM ⟨?_, ?_⟩, Or.inr ⟨n, nb, t, h, ac, μ, un, Ld_ag (AgC_l aC) (AgM_l aM) l, Ca_ag (fun a h1 h2 => ?_) c⟩⟩
  · simp only [si_rd]; simp
  · rw [aC.1 _ _ (by omega), aM.1 _ _ (by omega), hC.1 _ _ (by omega), hM _ _ (by omega)]; exact q2
  · simp only [si_rd]; simp; intro e; exact absurd e (by decide)
  · rw [hM _ _ (by omega)]; exact z1
  · rw [hM _ _ (by omega)]; exact z2
  · funext j
    rw [si_rd, if_neg (by omega)]
/-- NEW prices, changed on both sides behind a push -/
theorem actN {σC σM x2 x1 y2 y1 : Sto} {n nb t h' ac' : Nat} {μ ν : Nat → Int} {un : Nat → Nat → Int} (H : Inv σC σM) (c : Ca x2 n nb μ un) (l' : Ld x2 x1 n nb t h' ac' μ un) (fC : AcD σC x2) (fM : AcM σM x1) (e : EqN ν μ n) (e32 : ν 32 = μ 32) (hn : ∀ s, s < n → 0 ≤ ν (7 * s + 1) ∧ ν (7 * s + 1) ≤ 20)
    (f2 : ∀ a k, a ≠ 5 → y2.1 a k = x2.1 a k) (r2 : y2.2 = x2.2) (hy : YR y2 3 ν n) (hm : ∀ k, k < 34 → y1.1 2 k = zI (ν k)) (f1 : MdM x1 y1) (a1 : AcM x1 y1) :
    ∃ τ, F_X11_forgetFresh y2 = some τ ∧ YR τ 3 ν n ∧ TR τ t ν n ∧ Gd ν n (ν 32).toNat ∧ MS y1 ν n ∧ τ.2 = σC.2 ∧ Inv (si τ 0 18 (zI 0)) (si (si y1 0 1 (zI 0)) 0 2 (-1)) := by
  have h4 := l'.2.1.1.1.2.1
  have G : Gd ν n (ν 32).toNat := by rw [e32]; exact Gd_N l'.2.1.1 e hn
  obtain ⟨τ, t1, t2, t3, t4, t5, t6⟩ := c_fresh y2
  have hyt : YR τ 3 ν n := YR_fr hy (fun a k _ _ => t2 a k (by omega))
  have L : Ld τ y1 n nb t h' ac' ν un := Ld_mod l' ⟨fun b i q => by rw [t2 _ _ (by omega), f2 _ _ (by omega)], t4.trans r2⟩ f1 hyt hm G e32 (EqN_sT e)
  refine ⟨τ, t1, hyt, L.2.2.2.2.1, G, L.2.2.1, t4.trans (r2.trans fC.2), ?_⟩
  refine Inv_act2 H ⟨fun b i q => ?_, ?_⟩ (fun b i q => ?_) L (Ca_N h4 e c (fun a k i1 i2 i3 => ?_) (fun k i1 i2 => ?_) t5 t6)
  · rw [t2 _ _ (by omega), f2 _ _ (by omega)]; exact fC.1 _ _ q
  · exact t4.trans (r2.trans fC.2)
  · rw [a1 b i q]; exact fM _ _ q
  · rw [t2 _ _ i3, f2 _ _ (by omega)]
  · rw [t3 k i1 i2, f2 _ _ (by omega)]
theorem Ca_p {σ τ : Sto} {n nb : Nat} {μ : Nat → Int} {un : Nat → Nat → Int} (f : PFc σ τ) (c : Ca σ n nb μ un) : Ca τ n nb μ un := Ca_ag (fun a h1 h2 => funext fun k => f.1 a k (by omega)) c
theorem pl_N (μ : Nat → Int) {n s : Nat} (hs : s < n) (h4 : n ≤ 4) (p : Int) : EqN (pl μ s p) μ n := by
  unfold pl
  refine ⟨fun u hu j h1 h2 => if_neg (by omega), fun r hr => if_neg (by omega), if_neg (by omega)⟩
theorem sp_price : Sp_price Inv := by
  intro σC σM i j h
  have h := Inv_0 h
  obtain ⟨z, hz1, hz2, rfl⟩ := zI_of i
  obtain ⟨w, hw1, hw2, rfl⟩ := zI_of j
  unfold F_X11_price F_X12_price
  rw [sw]
  generalize si σM 0 0 0 = s1 at h ⊢
  rcases h.2.2.2 with ⟨u1, u2⟩ | ⟨n, nb, t, hd, ac, μ, un, l, ca⟩
  · refine q_fin h (w := 1) (by decide) (v := -1) ?_ ?_
    · rw [c_noS0 u1, Option.bind_some, if_neg (show ¬ zI 1 = 0 by decide)]; rfl
    · rw [m_isS0 u2, Option.bind_some, if_pos (show zI 0 = 0 by decide)]; rfl
  · have l0 := l
    obtain ⟨⟨l1, l2, l3, l4⟩, ⟨g, g8, g9⟩, hm, ⟨hy, hyn⟩, ht, hb, -⟩ := l0
    have T := tC_t l4
    have h4 := g.1.2.1
    rcases (show ¬ (0 ≤ z ∧ z < n) ∨ ∃ s : Nat, z = s ∧ s < n from if q : 0 ≤ z ∧ z < n then Or.inr ⟨z.toNat, by omega, by omega⟩ else Or.inl q) with q | ⟨s, rfl, hs⟩
    · refine q_fin h (w := 1) (by decide) (v := -1) ?_ ?_
      · rw [show F_X11_noService σC (zI z) = some (zI 1) from (c_noS l1 l3 T.1 ht.1.1 h4 ⟨hz1, hz2⟩).trans (congrArg some (if_neg q)), Option.bind_some, if_neg (show ¬ zI 1 = 0 by decide)]; rfl
      · rw [show F_X12_isService s1 (zI z) = some (zI 0) from (m_isS hm l2 h4 ⟨hz1, hz2⟩).trans (congrArg some (if_neg q)), Option.bind_some, if_pos (show zI 0 = 0 by decide)]; rfl
    · rw [show F_X11_noService σC (zI s) = some (zI 0) from (c_noS l1 l3 T.1 ht.1.1 h4 ⟨hz1, hz2⟩).trans (congrArg some (if_pos (by omega))), Option.bind_some, if_pos (show zI 0 = 0 by decide), show F_X12_isService s1 (zI s) = some (zI 1) from (m_isS hm l2 h4 ⟨hz1, hz2⟩).trans (congrArg some (if_pos (by omega))), Option.bind_some, if_neg (show ¬ zI 1 = 0 by decide), c_noP σC ⟨hw1, hw2⟩, m_isP s1 ⟨hw1, hw2⟩]
      by_cases q : 0 ≤ w ∧ w ≤ 20
      · rw [if_pos q, if_pos q, Option.bind_some, Option.bind_some, if_pos (show zI 0 = 0 by decide), if_neg (show ¬ zI 1 = 0 by decide)]
        obtain ⟨x2, x1, h', ac', e1, e2, l', fC, fM⟩ := Ld_push l
        have hm' := l'.2.2.1
        have hy' := l'.2.2.2.1.1
        obtain ⟨τ, t1, t2, t3, t4, t5, t6, t7⟩ := actN (ν := pl μ s w) (y2 := si x2 5 s (zI w)) (y1 := si x1 2 (7 * s + 1) (zI w)) h (Ca_p fC ca) l' ⟨fun a k qq => fC.1 a k (by omega), fC.2⟩ (fun a k qq => fM.1 a k (by omega) (by omega)) (pl_N μ hs h4 w) (if_neg (by omega)) (fun u hu => by
            unfold pl
            by_cases e : u = s
            · rw [if_pos (by omega)]; exact q
            · rw [if_neg (by omega)]; exact (g.2.2.1 u hu).2.1) (fun a k ha => by rw [si_rd, if_neg (by omega)]) rfl ⟨fun u hu => by
            unfold pl
            refine ⟨?_, ?_, ?_⟩
            · rw [si_rd, if_neg (by omega), if_neg (by omega)]; exact (hy'.1 u hu).1
            · rw [si_rd]
              by_cases e : u = s
              · rw [if_pos ⟨rfl, e⟩, if_pos (by omega)]
              · rw [if_neg (by omega), if_neg (by omega)]; exact (hy'.1 u hu).2.1
            · rw [si_rd, if_neg (by omega), if_neg (by omega)]; exact (hy'.1 u hu).2.2, fun r hr => by
            unfold pl
            rw [if_neg (by omega), si_rd, if_neg (by omega)]; exact hy'.2.1 r hr, by
            unfold pl
            rw [if_neg (by omega), si_rd, if_neg (by omega)]; exact hy'.2.2⟩ (fun k hk => by
            unfold pl
            rw [si_rd]
            by_cases e : k = 7 * s + 1
            · rw [if_pos ⟨rfl, e⟩, if_pos e]
            · rw [if_neg (by omega), if_neg e]; exact hm'.1 k hk) ⟨fun a k qq => by rw [si_rd, if_neg (by omega)], rfl⟩ (fun a k qq => by rw [si_rd, if_neg (by omega)])
        refine ⟨zI (μ (7 * s + 1)), _, _, ?_, ?_, t7⟩
        · rw [e1, Option.bind_some]
          simp (disch := omega) only [zI_ib, zI_ix, Int.toNat_natCast]
          rw [if_pos (by omega), sw]
          show (F_X11_forgetFresh (si x2 5 s (zI w))).bind _ = _
          rw [t1, Option.bind_some, show x2.1 (3 + 2) s = zI (μ (7 * s + 1)) from (hy'.1 s hs).2.1]
          rfl
        · unfold F_X12_changes
          rw [e2, Option.bind_some]
          simp (disch := omega) only [zl7, zl1, zI_mul, zI_add, zI_ib, zI_ix, Int.toNat_natCast]
          rw [if_pos (by omega), sw, show ((7 : Int) * s + 1).toNat = 7 * s + 1 by omega, hm'.1 _ (by omega)]
          rfl
      · refine q_fin h (w := 2) (by decide) (v := -1) ?_ ?_
        · rw [if_neg q, Option.bind_some, if_neg (show ¬ zI 1 = 0 by decide)]; rfl
        · rw [if_neg q, Option.bind_some, if_pos (show zI 0 = 0 by decide)]; rfl
theorem m_takes {σ : Sto} {μ q : Nat → Int} {n : Nat} (h4 : n ≤ 4) (h : MS σ μ n) (hq : ∀ s, s < n → σ.1 16 s = zI (q s)) : ∃ τ, F_X12_takesRow σ = some τ ∧ (∀ k, k < 34 → τ.1 2 k = zI (lay1 μ n q k)) ∧ (∀ a k, a ≠ 2 ∨ 34 ≤ k → τ.1 a k = σ.1 a k) ∧ (∀ k, 28 ≤ k → τ.1 2 k = σ.1 2 k) ∧ τ.2 = σ.2 := by
  have key : ∀ (m s k : Nat) (τ : Sto), s + m = n → m < k → (∀ k, k < 34 → τ.1 2 k = if k < 7 * s ∧ k % 7 = 1 then zI (q (k / 7)) else zI (μ k)) → (∀ a k, a ≠ 2 ∨ 28 ≤ k → τ.1 a k = σ.1 a k) → τ.2 = σ.2 → ∃ υ, F_X12_takesRow_2 k τ (zI s) = some υ ∧ (∀ k, k < 34 → υ.1 2 k = zI (lay1 μ n q k)) ∧ (∀ a k, a ≠ 2 ∨ 34 ≤ k → υ.1 a k = σ.1 a k) ∧ (∀ k, 28 ≤ k → υ.1 2 k = σ.1 2 k) ∧ υ.2 = σ.2 := by
    intro m
    induction m with
    | zero =>
      intro s k τ h1 h2 c f f2
      obtain ⟨k, rfl⟩ : ∃ j, k = j + 1 := ⟨k - 1, by omega⟩
      have e : s = n := h1
      subst e
      refine ⟨τ, ?_, fun k hk => ?_, fun a k qq => f a k (by omega), fun k hk => f 2 k (by omega), f2⟩
      · rw [F_X12_takesRow_2, f 0 22 (by omega), h.2, if_pos (zleT (by omega))]
      · rw [c k hk]
        unfold lay1
        by_cases e : k < 7 * s ∧ k % 7 = 1
        · rw [if_pos e, if_pos e]
        · rw [if_neg e, if_neg e]
    | succ m ih =>
      intro s k τ h1 h2 c f f2
      obtain ⟨k, rfl⟩ : ∃ j, k = j + 1 := ⟨k - 1, by omega⟩
      rw [F_X12_takesRow_2, f 0 22 (by omega), h.2, if_neg (zleF (by omega))]
      simp (disch := omega) only [zl7, zl1, zI_mul, zI_add, zI_ib, zI_ix, Int.toNat_natCast]
      rw [if_pos (by omega), if_pos (by omega), sw, show ((7 : Int) * s + 1).toNat = 7 * s + 1 by omega, f 16 s (by omega), hq s (by omega), show (s : Int) + 1 = ((s + 1 : Nat) : Int) by omega]
      refine ih (s + 1) k _ (by omega) (by omega) (fun k hk => ?_) (fun a k qq => by rw [si_rd, if_neg (by omega)]; exact f a k qq) f2
      rw [si_rd]
      by_cases e : k = 7 * s + 1
      · rw [if_pos ⟨rfl, e⟩, if_pos (by omega), show k / 7 = s by omega]
      · rw [if_neg (by omega), c k hk]
        by_cases e2 : k < 7 * s ∧ k % 7 = 1
        · rw [if_pos e2, if_pos (by omega)]
        · rw [if_neg e2, if_neg (by omega)]
  unfold F_X12_takesRow
  rw [zl0]
  exact key n 0 FU σ (by omega) (FU_lt (by omega)) (fun k hk => by rw [if_neg (by omega)]; exact h.1 k hk) (fun _ _ _ => rfl) rfl
/-- NEW prices are a row that both found -/
theorem lay_fin {σC τ0 s1 : Sto} {n nb t h ac e0 : Nat} {μ q : Nat → Int} {un : Nat → Nat → Int} {ig : Int32} {w : Nat → Nat → Int} (H : Inv σC s1) (l : Ld σC s1 n nb t h ac μ un) (aC : AgC σC τ0) (c : Ca τ0 n nb μ un) (h7 : (shC e0).1 = 7) (he : 75 ≤ e0) (hq : ∀ s, s < n → τ0.1 (e0 + 1) s = zI (q s)) (hi : IgW μ ig w) (O : Opt n 1 (lds μ fun _ _ => 0) (rms μ n fun _ _ => 0) lo0 hi0 w q) : ∃ (v : Int32) (τC τM : Sto), F_X11_lay_50 τ0 e0 = some (v, τC) ∧ ((F_X12_remembers s1).bind fun x1 => ((F_X12_finds x1 ig).bind fun x2 => if x2.1 ≤ (-100000000) then (F_X12_lay_39 x2.2 ) else (((F_X12_takesRow x2.2).bind fun x3 => F_X12_lay_39 x3 )))) = some (v, τM) ∧ Inv τC τM := by
  have h4 := l.2.1.1.1.2.1
  have l3 := l.1.2.2.1
  have l4 := l.1.2.2.2
  have T := tC_t l4
  have l0 : Ld τ0 s1 n nb t h ac μ un := Ld_ag (AgC_l aC) (AgM_l (AgM_rfl s1)) l
  obtain ⟨x2, x1, h', ac', e1, e2, l', fC, fM⟩ := Ld_push l0
  have z := H.2.2.1
  have z' : Mz x1 := ⟨by rw [fM.1 _ _ (by omega) (by omega)]; exact z.1, by rw [fM.1 _ _ (by omega) (by omega)]; exact z.2⟩
  obtain ⟨τM, p', b1, b2, b3, b4, b5, b6⟩ := m_best l' z' hi
  have epq : ∀ s, s < n → p' s = q s := Opt_un O b3
  have hmM : MS τM μ n := MS_ag (AgM_l (MfF_ag b2)) l'.2.2.1
  obtain ⟨y1, k1, k2, k3, k4, k5⟩ := m_takes (q := q) h4 hmM (fun s hs => by rw [b4 s hs, epq s hs])
  have hy' := l'.2.2.2.1.1
  have hY : YR (sI x2 5 (va_cpy (x2.1 (e0 + 1)) (x2.1 5) 0 0 4)) 3 (lay1 μ n q) n := by
    refine ⟨fun u hu => ?_, fun r hr => ?_, ?_⟩
    · rw [lay1_o (by omega), lay1_1 hu, lay1_o (by omega), sI_rd, if_neg (by omega), sI_rd, if_pos (by omega), sI_rd, if_neg (by omega)]
      refine ⟨(hy'.1 u hu).1, ?_, (hy'.1 u hu).2.2⟩
      unfold va_cpy
      simp (disch := omega) only [if_pos, Nat.zero_add, Nat.sub_zero]
      rw [fC.1 _ _ (by omega)]
      exact hq u hu
    · rw [lay1_o (by omega), sI_rd, if_neg (by omega)]; exact hy'.2.1 r hr
    · rw [lay1_o (by omega), sI_rd, if_neg (by omega)]; exact hy'.2.2
  have aM := MfF_ag b2
  obtain ⟨τ, t1, t2, t3, t4, t5, t6, t7⟩ := actN (ν := lay1 μ n q) (y2 := sI x2 5 (va_cpy (x2.1 (e0 + 1)) (x2.1 5) 0 0 4)) (y1 := y1) H (Ca_p fC c) l' ⟨fun a k qq => by rw [fC.1 a k (by omega)]; exact aC.1 a k (by omega), fC.2.trans aC.2⟩ (fun a k qq => fM.1 a k (by omega) (by omega)) (lay1_N μ h4 q) (lay1_o (by omega)) (fun s hs => by rw [lay1_1 hs]; exact O.1.1 s hs) (fun a k ha => by rw [sI_rd, if_neg ha]) rfl hY k2 ⟨fun a k qq => by
      by_cases e : a = 2
      · rw [e, k4 k (by omega), b2.1 2 (by omega)]
      · rw [k3 a k (Or.inl e)]
        exact aM.1 a k (by omega), k5.trans b2.2.2⟩ (fun a k qq => by rw [k3 a k (by omega)]; exact aM.1 a k (by omega))
  refine ⟨zI (sp (lay1 μ n q) n), _, _, ?_, ?_, t7⟩
  · unfold F_X11_lay_50
    rw [e1, Option.bind_some, if_pos h7, sw, show ix 0 = 0 from by decide, show ix 4 = 4 from by decide]
    show (F_X11_forgetFresh (sI x2 5 (va_cpy (x2.1 (e0 + 1)) (x2.1 5) 0 0 4))).bind _ = _
    rw [t1, Option.bind_some, t6, l3, Option.bind_some, y_spent yC_3 T t2 t3 t4, Option.bind_some]
    rfl
  · rw [e2, Option.bind_some, b1, Option.bind_some, if_neg (show ¬ zI (vl n w p') ≤ -100000000 from by rw [zLst]; exact zleF (by omega)), k1, Option.bind_some]
    unfold F_X12_lay_39
    rw [m_spent t5 t4, Option.bind_some]
    rfl
theorem sp_lay : Sp_lay Inv := by
  intro σC σM i hi h
  have h := Inv_0 h
  unfold F_X11_lay F_X12_lay
  rw [sw]
  generalize si σM 0 0 0 = s1 at h ⊢
  rcases h.2.2.2 with ⟨u1, u2⟩ | ⟨n, nb, t, hd, ac, μ, un, l, ca⟩
  · refine q_fin h (w := 1) (by decide) (v := -1) ?_ ?_
    · rw [if_pos u1]; rfl
    · rw [if_pos u2]; rfl
  · rw [if_neg (show ¬ σC.1 0 13 = 0 by rw [l.1.1]; decide), if_neg (show ¬ s1.1 0 25 = 0 by rw [l.1.2.1]; decide), l.1.2.2.1, Option.bind_some, Option.bind_some]
    rcases hi with rfl | rfl
    · obtain ⟨τC, q, a1, a2, a3, a4, a5, a6, a7⟩ := cf_best l ca
      rw [if_pos rfl, a1, Option.bind_some]
      exact lay_fin (e0 := 76) h l a2 a3 (show (shC 76).1 = 7 by decide) (by omega) a7 (Or.inl ⟨rfl, rfl⟩) a5
    · obtain ⟨τC, q, a1, a2, a3, a4, a5, a6, a7⟩ := cf_fair l ca
      rw [if_neg (by decide), a1, Option.bind_some]
      exact lay_fin (e0 := 78) h l a2 a3 (show (shC 78).1 = 7 by decide) (by omega) a7 (Or.inr ⟨rfl, rfl⟩) a5
