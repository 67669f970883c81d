/-! A TRADE, IN THE CLASS -/
theorem sz_up (f : Nat → Int) (a : Int) (s : Nat) : ∀ (n : Nat), sz n (fun i => if i = s then a else f i) = if s < n then sz n f - f s + a else sz n f
  | 0 => by rw [if_neg (by omega)]; rfl
  | n + 1 => by
    rw [sz, sz_up f a s n, sz]
    by_cases h : s < n
    · rw [if_pos h, if_neg (by omega), if_pos (by omega)]; omega
    · rw [if_neg h]
      by_cases e : n = s
      · rw [if_pos e, if_pos (by omega), e]; omega
      · rw [if_neg e, if_neg (by omega)]
def ptF (μ : Nat → Int) (s u k : Nat) (i : Nat) : Int := pr μ i (μ (7 * i + 1) + (if i = s then 1 else 0) - (if i = u then (k : Int) else 0))
theorem pt_tv {μ : Nat → Int} {n s u k : Nat} (h : tOk1 μ n s u k) : sz n (ptF μ s u k) = tv μ n s u k := by
  obtain ⟨h1, h2, h3, h4, h5⟩ := h
  have e : sz n (ptF μ s u k) = sz n (fun i => if i = s then pr μ s (μ (7 * s + 1) + 1) else (fun i => if i = u then pr μ u (μ (7 * u + 1) - k) else (fun i => pr μ i (μ (7 * i + 1))) i) i) := by
    refine sz_cg (fun i hi => ?_)
    unfold ptF
    by_cases e1 : i = s
    · subst e1
      rw [if_pos rfl, if_neg h3, if_pos rfl, Int.sub_zero]
    · rw [if_neg e1, if_neg e1, Int.add_zero]
      by_cases e2 : i = u
      · subst e2
        simp only [if_true]
      · simp only [if_neg e2, Int.sub_zero]
  rw [e, sz_up, if_pos h1, sz_up, if_pos h2]
  unfold tv allP
  simp only [if_neg h3]
  omega
theorem c_pt {τ : Sto} {μ : Nat → Int} {n c t s u k : Nat} (T : tC t) (hy : YR τ 3 μ n) (ht : TR τ t μ n) (g : Gd μ n c) (ok : tOk1 μ n s u k) : F_X1_profitThen τ t 3 (zI s) (zI u) (zI k) = some (zI (tv μ n s u k)) := by
  have h4 := g.1.2.1
  rw [← pt_tv ok]
  obtain ⟨h1, h2, h3, h5, h6⟩ := ok
  have nu := (g.2.2.1 u h2).2.1
  rw [F_X1_profitThen, zl0]
  refine sum_loop (L := fun q a i => F_X1_profitThen_6 q τ t 3 (zI s) (zI u) (zI k) a i) (R := fun z => some (zI z)) (f := ptF μ s u k) (fun q acc i hi _ => ?_) (fun q => ?_) FU (FU_lt (by omega))
  · have ni := (g.2.2.1 i hi).2.1
    have fin : ∀ p : Int, 0 ≤ p → p ≤ 20 → ptF μ s u k i = pr μ i p → ∀ e0 e1 : Int, e0 - e1 = p → F_X1_profitThen_47 (F_X1_profitThen_6 q) τ t 3 (zI s) (zI u) (zI k) (zI acc) (zI i) (zI e0) (zI e1) = F_X1_profitThen_6 q τ t 3 (zI s) (zI u) (zI k) (zI (acc + ptF μ s u k i)) (zI ((i : Int) + 1)) := by
      intro p p1 p2 pe e0 e1 ee
      unfold F_X1_profitThen_47
      rw [if_pos T.1, zl21, zl1]
      simp only [zI_sub, zI_mul, zI_add, ee]
      simp (disch := omega) only [zI_ib, zI_ix]
      rw [if_pos (by omega), sw, show ((i : Int) * 21 + p).toNat = 21 * i + p.toNat by omega, t_pr ht i hi _ (show p.toNat ≤ 20 by omega), show ((p.toNat : Nat) : Int) = p by omega, zI_add, pe]
    rw [F_X1_profitThen_6, if_pos T.1, ht.1.1, if_neg (zleF (by omega)), if_pos yC_3.1]
    simp (disch := omega) only [zI_ib, zI_ix, Int.toNat_natCast, zI_eq]
    rw [if_pos (by omega), show τ.1 (3 + 2) i = zI (μ (7 * i + 1)) from (hy.1 i hi).2.1]
    unfold F_X1_profitThen_33
    simp (disch := omega) only [zI_eq, zl0, zl1, zI_add]
    by_cases e1 : i = s
    · subst e1
      rw [if_pos rfl, if_neg (by omega)]
      refine fin (μ (7 * i + 1) + 1) (by omega) (by omega) ?_ _ _ (by omega)
      unfold ptF
      rw [if_pos rfl, if_neg h3, Int.sub_zero]
    · rw [if_neg (by omega)]
      by_cases e2 : i = u
      · subst e2
        rw [if_pos rfl]
        refine fin (μ (7 * i + 1) - k) (by omega) (by omega) ?_ _ _ (by omega)
        unfold ptF
        rw [if_neg e1, if_pos rfl, Int.add_zero]
      · rw [if_neg (by omega)]
        refine fin (μ (7 * i + 1)) (by omega) (by omega) ?_ _ _ (by omega)
        unfold ptF
        rw [if_neg e1, if_neg e2, Int.add_zero, Int.sub_zero]
  · rw [F_X1_profitThen_6, if_pos T.1, ht.1.1, if_pos (Int32.le_refl _)]
def DlF (σ τ : Sto) : Prop := (∀ a k, ¬ (a = 99 ∨ a = 100) → τ.1 a k = σ.1 a k) ∧ τ.2 = σ.2
theorem DlF_tr {σ τ υ : Sto} (h : DlF σ τ) (k : DlF τ υ) : DlF σ υ := ⟨fun a j q => (k.1 a j q).trans (h.1 a j q), k.2.trans h.2⟩
def RcT (τ : Sto) (μ : Nat → Int) (n : Nat) (o : Option (Nat × Nat × Nat)) : Prop := match o with
  | none => τ.1 99 1 = 0
  | some x => τ.1 99 1 = 1 ∧ τ.1 100 0 = zI (tv μ n x.1 x.2.1 x.2.2) ∧ τ.1 100 1 = zI x.1 ∧ τ.1 100 2 = zI x.2.1 ∧ τ.1 100 3 = zI x.2.2
theorem c_of12 {τ : Sto} {μ : Nat → Int} {n c t s u : Nat} {D : Int} {o : Option (Nat × Nat × Nat)} (T : tC t) (hy : YR τ 3 μ n) (ht : TR τ t μ n) (g : Gd μ n c) (bD : -100000 ≤ D ∧ D ≤ 3000000) (hs : s < n) (hu : u < n) (su : s ≠ u) (n19 : μ (7 * s + 1) ≤ 19) (ro : RcT τ μ n o) (to : tOk μ n o) : ∀ (d k j : Nat), (k : Int) + d = μ (7 * u + 1) + 1 → d < j → ∃ τ', F_X1_offer_12 j τ t 3 (zI s) (zI u) (zI (-D + we μ s)) (zI (we μ u)) (zI k) = some τ' ∧ DlF τ τ' ∧ RcT τ' μ n (tnx μ n o s u (tkF μ D s u d k)) := by
  have h4 := g.1.2.1
  have nu := (g.2.2.1 u hu).2.1
  have ws := we_bd g hs
  have wu := we_bd g hu
  have fu : τ.1 (3 + 2) u = zI (μ (7 * u + 1)) := (hy.1 u hu).2.1
  intro d
  induction d with
  | zero =>
    intro k j k1 k2
    obtain ⟨j, rfl⟩ : ∃ i, j = i + 1 := ⟨j - 1, by omega⟩
    refine ⟨τ, ?_, ⟨fun _ _ _ => rfl, rfl⟩, ro⟩
    rw [F_X1_offer_12, if_pos yC_3.1]
    simp (disch := omega) only [zI_ib, zI_ix, Int.toNat_natCast]
    rw [if_pos (by omega), fu, if_pos (zltT (by omega))]
  | succ d ih =>
    intro k j k1 k2
    obtain ⟨j, rfl⟩ : ∃ i, j = i + 1 := ⟨j - 1, by omega⟩
    have kw := mul_bd (a := 20) (b := 200) (show 0 ≤ (k : Int) by omega) (show (k : Int) ≤ 20 by omega) wu.1 wu.2
    rw [F_X1_offer_12, if_pos yC_3.1]
    simp (disch := omega) only [zI_ib, zI_ix, Int.toNat_natCast]
    rw [if_pos (by omega), fu, if_neg (zltF (by omega)), zI_mul, zI_sub, zl0, tkF]
    by_cases q : we μ s - (k : Int) * we μ u ≤ D
    · have ok : tOk1 μ n s u k := ⟨hs, hu, su, n19, by omega⟩
      have tb := tv_bd g ok
      rw [if_neg (zltF (by omega)), if_pos q, c_pt T hy ht g ok, Option.bind_some]
      have new : tup μ n o s u k = some (s, u, k) → ∃ τ', F_X1_offer_66 τ (zI s) (zI u) (zI k) (zI (tv μ n s u k)) = some τ' ∧ DlF τ τ' ∧ RcT τ' μ n (tup μ n o s u k) := by
        intro e
        unfold F_X1_offer_66
        rw [sw, sw, sw, sw, sw, e, show ix 0 = 0 from by decide, show ix 1 = 1 from by decide, show ix 2 = 2 from by decide, show ix 3 = 3 from by decide]
        refine ⟨_, rfl, ⟨fun a j q => ?_, rfl⟩, ?_, ?_, ?_, ?_, ?_⟩
        · simp (disch := omega) only [si_rd, if_neg]
        · rw [si_rd, if_neg (by omega), si_rd, if_neg (by omega), si_rd, if_neg (by omega), si_rd, if_neg (by omega), si_rd, if_pos ⟨rfl, rfl⟩]
        · rw [si_rd, if_neg (by omega), si_rd, if_neg (by omega), si_rd, if_neg (by omega), si_rd, if_pos ⟨rfl, rfl⟩]
        · rw [si_rd, if_neg (by omega), si_rd, if_neg (by omega), si_rd, if_pos ⟨rfl, rfl⟩]
        · rw [si_rd, if_neg (by omega), si_rd, if_pos ⟨rfl, rfl⟩]
        · rw [si_rd, if_pos ⟨rfl, rfl⟩]
      show ∃ τ', _ ∧ DlF τ τ' ∧ RcT τ' μ n (tup μ n o s u k)
      cases o with
      | none =>
        rw [if_pos (show τ.1 99 1 = zI 0 from ro)]
        exact new rfl
      | some x =>
        have xb := tv_bd g (to x rfl)
        rw [ro.1, if_neg (by decide), show ix (zI 0) = 0 from by decide, ro.2.1]
        by_cases q2 : tv μ n s u k ≤ tv μ n x.1 x.2.1 x.2.2
        · rw [if_pos (zleT (by omega))]
          refine ⟨τ, rfl, ⟨fun _ _ _ => rfl, rfl⟩, ?_⟩
          unfold tup
          dsimp only
          rw [if_pos q2]
          exact ro
        · rw [if_neg (zleF (by omega))]
          exact new (by unfold tup; dsimp only; rw [if_neg q2])
    · rw [if_pos (zltT (by omega)), if_neg q, zI_s1 k]
      exact ih (k + 1) j (by omega) (by omega)
theorem c_sk27 {σ : Sto} {μ : Nat → Int} {n c t s : Nat} {D : Int} (K : Sto → Nat → Nat → Int32 → Int32 → Option (Int32 × Sto)) (l4 : t = 102 ∨ t = 110) (hy0 : YR σ 3 μ n) (ht0 : TR σ t μ n) (g : Gd μ n c) (bD : -100000 ≤ D ∧ D ≤ 3000000) (hs : s < n) : ∀ (d u j : Nat) (τ : Sto) (o : Option (Nat × Nat × Nat)), u + d = n → d < j → DlF σ τ → RcT τ μ n o → tOk μ n o → ∃ τ', F_X1_seek_27 K j τ t 3 (zI (-D)) (zI s) (zI u) = K τ' t 3 (zI (-D)) (zI ((s + 1 : Nat) : Int)) ∧ DlF σ τ' ∧ RcT τ' μ n (tI μ n D s d u o) := by
  have T := tC_t l4
  have h4 := g.1.2.1
  have ns := (g.2.2.1 s hs).2.1
  have ws := we_bd g hs
  intro d
  induction d with
  | zero =>
    intro u j τ o k1 k2 f ro to
    obtain ⟨j, rfl⟩ : ∃ i, j = i + 1 := ⟨j - 1, by omega⟩
    refine ⟨τ, ?_, f, ro⟩
    rw [F_X1_seek_27, if_pos T.1, f.1 t 0 (by omega), ht0.1.1, if_pos (zleT (by omega)), zI_s1 s]
  | succ d ih =>
    intro u j τ o k1 k2 f ro to
    obtain ⟨j, rfl⟩ : ∃ i, j = i + 1 := ⟨j - 1, by omega⟩
    have hu : u < n := by omega
    have nu := (g.2.2.1 u hu).2.1
    have hy : YR τ 3 μ n := YR_fr hy0 (fun a k i1 i2 => f.1 a k (by omega))
    have ht : TR τ t μ n := TR_fr ht0 (fun a k i1 i2 => f.1 a k (by omega))
    have tok := tst_ok (D := D) g hs hu to
    rw [F_X1_seek_27, if_pos T.1, ht.1.1, if_neg (zleF (by omega)), zI_s1 u, tI]
    by_cases e : s = u
    · rw [if_pos (by rw [e])]
      have et : tst μ n D o s u = o := if_pos (Or.inl e)
      rw [et]
      exact ih (u + 1) j τ o (by omega) (by omega) f ro to
    · rw [if_neg (by rw [zI_eq (by omega) (by omega) (by omega) (by omega)]; omega), if_pos yC_3.1]
      simp (disch := omega) only [zI_ib, zI_ix, Int.toNat_natCast]
      rw [if_pos (by omega), show τ.1 (3 + 2) s = zI (μ (7 * s + 1)) from (hy.1 s hs).2.1, zl20]
      by_cases e2 : μ (7 * s + 1) = 20
      · rw [if_pos (zleT (by omega))]
        have et : tst μ n D o s u = o := if_pos (Or.inr e2)
        rw [et]
        exact ih (u + 1) j τ o (by omega) (by omega) f ro to
      · rw [if_neg (zleF (by omega)), y_weight yC_3 T hy ht g hs, Option.bind_some, zI_add]
        obtain ⟨τ', a1, a2, a3⟩ := c_of12 T hy ht g bD hs hu e (by omega) ro to (μ (7 * u + 1) + 1).toNat 0 FU (by omega) (FU_lt (by omega))
        have a1' : F_X1_offer_12 FU τ t 3 (zI s) (zI u) (zI (-D + we μ s)) (zI (we μ u)) 0 = some τ' := a1
        have et : tst μ n D o s u = tnx μ n o s u (tkF μ D s u (μ (7 * u + 1) + 1).toNat 0) := if_neg (by omega)
        have eo : F_X1_offer τ t 3 (zI s) (zI u) (zI (-D + we μ s)) = some τ' := by
          unfold F_X1_offer
          rw [if_pos yC_3.1, y_weight yC_3 T hy ht g hu, Option.bind_some, a1']
        rw [eo, Option.bind_some]
        rw [← et] at a3
        exact ih (u + 1) j τ' _ (by omega) (by omega) (DlF_tr f a2) a3 tok
theorem c_seek {σ : Sto} {μ : Nat → Int} {n c t : Nat} (l4 : t = 102 ∨ t = 110) (hy0 : YR σ 3 μ n) (ht0 : TR σ t μ n) (g : Gd μ n c) : ∃ τ, F_X1_seek σ t 3 = some (if tO μ n (al μ n - sp μ n) n 0 none = none then 0 else 1, τ) ∧ DlF σ τ ∧ RcT τ μ n (tO μ n (al μ n - sp μ n) n 0 none) := by
  have T := tC_t l4
  have h4 := g.1.2.1
  have A := al_bd0 g
  have S := sp_bd g
  have loop : ∀ (d s j : Nat) (τ : Sto) (o : Option (Nat × Nat × Nat)), s + d = n → d < j → DlF σ τ → RcT τ μ n o → tOk μ n o → ∃ υ, F_X1_seek_15 j τ t 3 (zI (-(al μ n - sp μ n))) (zI s) = some (if tO μ n (al μ n - sp μ n) d s o = none then 0 else 1, υ) ∧ DlF σ υ ∧ RcT υ μ n (tO μ n (al μ n - sp μ n) d s o) := by
    intro d
    induction d with
    | zero =>
      intro s j τ o k1 k2 f ro to
      obtain ⟨j, rfl⟩ : ∃ i, j = i + 1 := ⟨j - 1, by omega⟩
      refine ⟨τ, ?_, f, ro⟩
      rw [F_X1_seek_15, if_pos T.1, f.1 t 0 (by omega), ht0.1.1, if_pos (zleT (by omega)), tO]
      cases o with
      | none => rw [show τ.1 99 1 = 0 from ro]; rfl
      | some x => rw [ro.1]; rfl
    | succ d ih =>
      intro s j τ o k1 k2 f ro to
      obtain ⟨j, rfl⟩ : ∃ i, j = i + 1 := ⟨j - 1, by omega⟩
      obtain ⟨τ', a1, a2, a3⟩ := c_sk27 (s := s) (F_X1_seek_15 j) l4 hy0 ht0 g (D := al μ n - sp μ n) (by omega) (by omega) n 0 FU τ o (by omega) (FU_lt (by omega)) f ro to
      have a1' : F_X1_seek_27 (F_X1_seek_15 j) FU τ t 3 (zI (-(al μ n - sp μ n))) (zI s) 0 = _ := a1
      rw [F_X1_seek_15, if_pos T.1, f.1 t 0 (by omega), ht0.1.1, if_neg (zleF (by omega)), a1', tO]
      exact ih (s + 1) j τ' _ (by omega) (by omega) a2 a3 (tI_ok g (by omega) n 0 o (by omega) to)
  unfold F_X1_seek
  have f0 : DlF σ (si σ 99 1 0) := ⟨fun a k q => by rw [si_rd, if_neg (by omega)], rfl⟩
  have hy : YR (si σ 99 1 0) 3 μ n := YR_fr hy0 (fun a k i1 i2 => f0.1 a k (by omega))
  have ht : TR (si σ 99 1 0) t μ n := TR_fr ht0 (fun a k i1 i2 => f0.1 a k (by omega))
  rw [sw, if_pos yC_3.1, y_left yC_3 T hy ht g, Option.bind_some, zI_neg]
  exact loop n 0 FU _ none (by omega) (FU_lt (by omega)) f0 (show (si σ 99 1 0).1 99 1 = 0 by rw [si_rd, if_pos ⟨rfl, rfl⟩]) (fun x hx => by cases hx)
theorem sp_trade : Sp_trade Inv := by
  intro σC σM i h
  have h := Inv_0 h
  obtain ⟨z, hz1, hz2, rfl⟩ := zI_of i
  unfold F_X11_trade F_X12_trade
  rw [sw]
  generalize si σM 0 0 0 = s1 at h ⊢
  rcases h.2.2.2 with ⟨u1, u2⟩ | ⟨n, nb, t, hd, ac, μ, un, l, ca⟩
  · refine q_fin h (w := 1) (by decide) (v := -1) ?_ ?_
    · rw [if_pos u1]; rfl
    · rw [if_pos u2]; rfl
  · have l0 := l
    obtain ⟨⟨l1, l2, l3, l4⟩, ⟨g, g8, g9⟩, hm, ⟨hy, hyn⟩, ht, hb, -⟩ := l0
    have mz : F_X12_in s1 (zI z) 0 3 = some (if 0 ≤ z ∧ z ≤ 3 then zI 1 else zI 0) := m_in s1 ⟨hz1, hz2⟩ (b := 0) (c := 3) (by omega) (by omega)
    rw [if_neg (show ¬ σC.1 0 13 = 0 by rw [l1]; decide), if_neg (show ¬ s1.1 0 25 = 0 by rw [l2]; decide), mz, Option.bind_some]
    by_cases q : 0 ≤ z ∧ z ≤ 3
    · rw [if_neg (zlt0F (by omega)), if_pos (show zI z ≤ 3 from by rw [zl3]; exact zleT (by omega)), if_pos q, if_neg (show ¬ zI 1 = 0 by decide), l3, Option.bind_some]
      obtain ⟨j, rfl⟩ : ∃ j : Nat, z = j := ⟨z.toNat, by omega⟩
      obtain ⟨τC, a1, a2, a4⟩ := c_seek l4 hy ht g
      obtain ⟨τM, b1, b2, b3, b4⟩ := m_trades hm g
      have aC : AgC σC τC := ⟨fun a k q => a2.1 a k (by omega), a2.2⟩
      have a3 : Ca τC n nb μ un := Ca_ag (fun a i1 i2 => funext fun k => a2.1 a k (by omega)) ca
      rw [a1, Option.bind_some, b1, Option.bind_some]
      generalize tO μ n (al μ n - sp μ n) n 0 none = o at *
      cases o with
      | none =>
        refine f_fin h l aC b2 a3 (w := 6) (by decide) (v := -1) ?_ ?_
        · rfl
        · rfl
      | some x =>
        dsimp only
        rw [if_neg (show ¬ (some x = none) from by simp), if_neg (show ¬ (1 : Int32) = 0 by decide), if_neg (show ¬ (1 : Int32) = 0 by decide)]
        simp (disch := omega) only [zI_ib, zI_ix, Int.toNat_natCast]
        rw [if_pos (by omega)]
        obtain ⟨c0, c1, c2, c3, c4⟩ := a4
        obtain ⟨d1, d2, d3, d4⟩ := b3
        rcases (show j = 0 ∨ j = 1 ∨ j = 2 ∨ j = 3 by omega) with rfl | rfl | rfl | rfl
        · refine f_fin h l aC b2 a3 (w := 0) (by decide) (v := zI (tv μ n x.1 x.2.1 x.2.2)) ?_ ?_
          · rw [c1]; rfl
          · rw [d1]; rfl
        · refine f_fin h l aC b2 a3 (w := 0) (by decide) (v := zI x.1) ?_ ?_
          · rw [c2]; rfl
          · rw [d2]; rfl
        · refine f_fin h l aC b2 a3 (w := 0) (by decide) (v := zI x.2.1) ?_ ?_
          · rw [c3]; rfl
          · rw [d3]; rfl
        · refine f_fin h l aC b2 a3 (w := 0) (by decide) (v := zI x.2.2) ?_ ?_
          · rw [c4]; rfl
          · rw [d4]; rfl
    · refine q_fin h (w := 1) (by decide) (v := -1) ?_ ?_
      · by_cases q3 : z < 0
        · rw [if_pos (show zI z < 0 from by rw [zl0]; exact zltT (by omega))]; rfl
        · rw [if_neg (zlt0F (by omega)), if_neg (show ¬ zI z ≤ 3 from by rw [zl3]; exact zleF (by omega))]; rfl
      · rw [if_neg q, if_pos (show zI 0 = 0 by decide)]; rfl
