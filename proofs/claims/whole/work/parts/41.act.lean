/-! ACTS THAT CHANGE ONE NUMBER -/
theorem bo_sT {P μ : Nat → Int} {n s : Nat} (h : sT P μ n) (hs : s < n) (p : Int) : bo P s p = bo μ s p := by
  unfold bo
  rw [(h s hs).1, (h s hs).2.1]
theorem pr_sT {P μ : Nat → Int} {n s : Nat} (h : sT P μ n) (hs : s < n) (p : Int) : pr P s p = pr μ s p := by
  unfold pr
  rw [bo_sT h hs, (h s hs).2.2.1]
theorem go_sT {P μ : Nat → Int} {n s : Nat} (h : sT P μ n) (hs : s < n) (p : Nat) : go P s p = go μ s p := by
  unfold go
  rw [pr_sT h hs]
  congr 1
  exact sz_cg (fun i _ => bo_sT h hs _)
theorem TR_sT {σ : Sto} {t n : Nat} {P μ : Nat → Int} (h : sT P μ n) (k : TR σ t μ n) : TR σ t P n := by
  refine ⟨⟨k.1.1, fun s hs => ?_⟩, fun s hs p hp => ?_⟩
  · rw [(h s hs).1, (h s hs).2.1, (h s hs).2.2.1, (h s hs).2.2.2]
    exact k.1.2 s hs
  · rw [bo_sT h hs, pr_sT h hs, go_sT h hs]
    exact k.2 s hs p hp
theorem sT_sym {P μ : Nat → Int} {n : Nat} (h : sT P μ n) : sT μ P n := fun s hs => ⟨(h s hs).1.symm, (h s hs).2.1.symm, (h s hs).2.2.1.symm, (h s hs).2.2.2.symm⟩
theorem sT_tr {P Q μ : Nat → Int} {n : Nat} (h : sT P Q n) (k : sT Q μ n) : sT P μ n := fun s hs => ⟨(h s hs).1.trans (k s hs).1, (h s hs).2.1.trans (k s hs).2.1, (h s hs).2.2.1.trans (k s hs).2.2.1, (h s hs).2.2.2.trans (k s hs).2.2.2⟩
def MdC (σ τ : Sto) : Prop := (∀ a k, ((a = 0 ∧ k = 13) ∨ (3 ≤ a ∧ a ≤ 62 ∧ a ≠ 5 ∧ a ≠ 6 ∧ a ≠ 7) ∨ 102 ≤ a) → τ.1 a k = σ.1 a k) ∧ τ.2 = σ.2
def MdM (σ τ : Sto) : Prop := (∀ a k, ((a = 0 ∧ (k = 22 ∨ k = 24 ∨ k = 25 ∨ k = 28)) ∨ a = 5 ∨ a = 6 ∨ a = 9 ∨ a = 10 ∨ (a = 2 ∧ 32 ≤ k)) → τ.1 a k = σ.1 a k) ∧ τ.2 = σ.2
theorem Ld_mod {σC σM τC τM : Sto} {n nb t h ac : Nat} {μ μ' : Nat → Int} {un : Nat → Nat → Int} (H : Ld σC σM n nb t h ac μ un) (hC : MdC σC τC) (hM : MdM σM τM) (hy : YR τC 3 μ' n) (hm : ∀ k, k < 34 → τM.1 2 k = zI (μ' k)) (g : Gd μ' n (μ' 32).toNat) (e : μ' 32 = μ 32) (st : sT μ' μ n) : Ld τC τM n nb t h ac μ' un := by
  obtain ⟨h1, h2, h3, h4, h5, h6, h7, h8, ⟨p1, p2, p3, p4, p5, p6⟩, h10⟩ := H
  have t4 := h1.2.2.2
  refine ⟨?_, ⟨g, by omega, by omega⟩, ⟨hm, ?_⟩, ⟨hy, ?_⟩, ?_, ?_, ?_, ?_, ⟨p1, p2, ?_, ?_, ?_, ?_⟩, ?_⟩
  · rw [hC.1 _ _ (by omega), hM.1 _ _ (by omega), hC.2]; exact h1
  · rw [hM.1 _ _ (by omega)]; exact h3.2
  · rw [hC.1 _ _ (by omega), e]; exact h4.2
  · refine TR_sT st ?_
    unfold TR TV at *
    simp (disch := omega) only [hC.1]
    exact h5
  · unfold By at *
    simp (disch := omega) only [hC.1, hM.1]
    exact h6
  · unfold Nm at *
    rw [hC.2, hM.2]
    exact h7
  · rw [e]
    unfold Bk at *
    simp (disch := omega) only [hC.1, hM.1]
    exact h8
  · rw [hC.1 _ _ (by omega)]; exact p3
  · rw [hC.1 _ _ (by omega)]; exact p4
  · rw [hM.1 _ _ (by omega)]; exact p5
  · refine ⟨fun i hi => ?_, fun i j hij hj => by rw [hM.1 _ _ (by omega), hM.1 _ _ (by omega)]; exact p6.2 i j hij hj⟩
    obtain ⟨P, ⟨k1, k2, k3, k4, k5, k6⟩, k7, k8⟩ := p6.1 i hi
    refine ⟨P, ⟨fun k hk => ?_, ?_, ?_, k4, k5, sT_tr k6 (sT_sym st)⟩, by omega, fun k hk => ?_⟩
    · rw [hM.1 _ _ (by omega)]; exact k1 k hk
    · unfold YR at *
      simp (disch := omega) only [hC.1]
      exact k2
    · rw [hC.1 _ _ (by omega)]; exact k3
    · rw [hM.1 _ _ (by omega), hM.1 _ _ (by omega)]; exact k8 k hk
  · intro i hi
    rcases h10 i hi with ⟨k1, k2⟩ | ⟨k1, k2, P, ⟨k3, k4, k5, k6, k7, k8⟩, k9⟩
    · exact Or.inl ⟨by rw [hC.1 _ _ (by omega)]; exact k1, by rw [hM.1 _ _ (by omega)]; exact k2⟩
    · refine Or.inr ⟨by rw [hC.1 _ _ (by omega)]; exact k1, by rw [hM.1 _ _ (by omega)]; exact k2, P, ⟨fun k hk => ?_, ?_, ?_, k6, k7, sT_tr k8 (sT_sym st)⟩, ?_⟩
      · rw [hM.1 _ _ (by omega)]; exact k3 k hk
      · unfold YR at *
        simp (disch := omega) only [hC.1]
        exact k4
      · rw [hC.1 _ _ (by omega)]; exact k5
      · unfold Bk at *
        simp (disch := omega) only [hC.1, hM.1]
        exact k9
theorem c_forget (σ : Sto) : ∃ τ, F_X11_forgetAll σ = some τ ∧ (∀ a k, a < 75 ∨ 98 < a → τ.1 a k = σ.1 a k) ∧ τ.2 = σ.2 ∧ ∀ n nb μ un, Ca τ n nb μ un := by
  unfold F_X11_forgetAll F_X2_forget F_X4_forgetAll F_X4_forgetFresh
  simp only [sw, Option.bind_some]
  refine ⟨_, rfl, fun a k q => ?_, rfl, fun n nb μ un => ⟨⟨Or.inl ?_, Or.inl ?_, Or.inl ?_, Or.inl ?_, Or.inl ?_⟩, Or.inl ?_, Or.inl ?_, Or.inl ?_⟩⟩
  · simp (disch := omega) only [si_rd, if_neg]
  all_goals (simp only [si_rd]; simp)
def AcC (σ τ : Sto) : Prop := (∀ a k, a = 0 ∨ a = 1 ∨ a = 101 → τ.1 a k = σ.1 a k) ∧ τ.2 = σ.2
def AcM (σ τ : Sto) : Prop := (∀ a k, (a = 0 ∧ (k = 4 ∨ k = 7 ∨ k = 38 ∨ k = 39 ∨ k = 46)) ∨ a = 1 ∨ a = 18 → τ.1 a k = σ.1 a k)
theorem Inv_act {σC σM τC τM : Sto} {n nb t h ac : Nat} {μ : Nat → Int} {un : Nat → Nat → Int} (H : Inv σC σM) (hC : AcC σC τC) (hM : AcM σM τM) (l : Ld τC τM n nb t h ac μ un) (c : Ca τC n nb μ un) : Inv (si τC 0 18 (zI 0)) (si (si τM 0 1 (zI 0)) 0 2 (-1)) := by
  have aC : AgC τC (si τC 0 18 (zI 0)) := AgC_si _ 0 18 _ (by omega)
  have aM : AgM τM (si (si τM 0 1 (zI 0)) 0 2 (-1)) := AgM_tr (AgM_si _ 0 1 _ (by omega)) (AgM_si _ 0 2 _ (by omega))
  obtain ⟨⟨g1, g2, g3, g4⟩, ⟨q1, q2, q3⟩, ⟨z1, z2⟩, -⟩ := H
  unfold AcM at hM
  have G : Gl τC τM := by
    refine ⟨?_, ?_, ?_, h, l.2.2.2.2.2.2.2.2.1.2.1, l.2.2.2.2.2.2.2.2.1.2.2.1⟩
    · unfold Tp at *
      simp (disch := omega) only [hC.1, hM]
      exact g1
    · unfold Wr at *
      simp (disch := omega) only [hC.1, hM]
      exact g2
    · unfold Tn at *
      rw [hC.2]
      exact g3
  refine ⟨Gl_ag aC aM G, ⟨?_, ?_, ?_⟩, Mz_ag aM ⟨?_, ?_⟩, Or.inr ⟨n, nb, t, h, ac, μ, un, Ld_ag (AgC_l aC) (AgM_l aM) l, Ca_ag (fun a h1 h2 => ?_) c⟩⟩
  · simp only [si_rd]; simp
  · rw [aC.1 _ _ (by omega), aM.1 _ _ (by omega), hC.1 _ _ (by omega), hM _ _ (by omega)]; exact q2
  · simp only [si_rd]; simp; intro e; exact absurd e (by decide)
  · rw [hM _ _ (by omega)]; exact z1
  · rw [hM _ _ (by omega)]; exact z2
  · funext j
    rw [si_rd, if_neg (by omega)]
/-- one number of the year, changed: at k in the reference, at (a, j) in the class -/
theorem act1 {σC σM : Sto} {n nb t h ac : Nat} {μ : Nat → Int} {un : Nat → Nat → Int} (H : Inv σC σM) (l : Ld σC σM n nb t h ac μ un) {k a j : Nat} {v : Int} (hk : k < 32) (ha : a = 6 ∨ a = 7)
    (hw : σC.1 a j = zI (μ k)) (hy : ∀ σ, YR σ 3 μ n → YR (si σ a j (zI v)) 3 (fun i => if i = k then v else μ i) n) (g : Gd (fun i => if i = k then v else μ i) n (μ 32).toNat) (st : sT (fun i => if i = k then v else μ i) μ n) :
    ∃ x2 x3 x1, F_X5_push σC 3 = some x2 ∧ x2.1 a j = zI (μ k) ∧ F_X11_forgetAll (si x2 a j (zI v)) = some x3 ∧ F_X12_remembers σM = some x1 ∧ x1.1 2 k = zI (μ k) ∧ Inv (si x3 0 18 (zI 0)) (si (si (si x1 2 k (zI v)) 0 1 (zI 0)) 0 2 (-1)) := by
  obtain ⟨x2, x1, h', ac', e1, e2, l', fC, fM⟩ := Ld_push l
  obtain ⟨x3, e3, f1, f2, f3⟩ := c_forget (si x2 a j (zI v))
  have hm := l'.2.2.1
  have e32 : (fun i => if i = k then v else μ i) 32 = μ 32 := if_neg (by omega)
  refine ⟨x2, x3, x1, e1, ?_, e3, e2, hm.1 k (by omega), ?_⟩
  · rw [fC.1 _ _ (by omega)]; exact hw
  · refine Inv_act (n := n) (nb := nb) (t := t) (h := h') (ac := ac') (μ := fun i => if i = k then v else μ i) (un := un) H ⟨fun b i q => ?_, ?_⟩ (fun b i q => ?_) ?_ (f3 _ _ _ _)
    · rw [f1 _ _ (by omega), si_rd, if_neg (by omega)]; exact fC.1 _ _ (by omega)
    · rw [f2]; exact fC.2
    · rw [si_rd, if_neg (by omega)]; exact fM.1 _ _ (by omega) (by omega)
    · refine Ld_mod l' ⟨fun b i q => ?_, f2⟩ ⟨fun b i q => ?_, rfl⟩ ?_ (fun i hi => ?_) (by rw [if_neg (show ¬ 32 = k by omega)]; exact g) e32 st
      · rw [f1 _ _ (by omega), si_rd, if_neg (by omega)]
      · rw [si_rd, if_neg (by omega)]
      · have := hy x2 l'.2.2.2.1.1
        unfold YR at *
        simp (disch := omega) only [f1]
        exact this
      · exact (MS_si (at' := k) (x := v) hm).1 i hi
theorem sp_quality : Sp_quality Inv := by
  intro σC σM i j h
  have h := Inv_0 h
  obtain ⟨z, hz1, hz2, rfl⟩ := zI_of i
  obtain ⟨w, hw1, hw2, rfl⟩ := zI_of j
  unfold F_X11_quality F_X12_quality F_X11_quality_24
  rw [sw]
  generalize si σM 0 0 0 = s1 at h ⊢
  rcases h.2.2.2 with ⟨u1, u2⟩ | ⟨n, nb, t, hd, ac, μ, un, ⟨⟨l1, l2, l3, l4⟩, ⟨g, g8, g9⟩, hm, ⟨hy, hyn⟩, ht, hb, hn, hk, hp, hi⟩, ca⟩
  · refine q_fin h (w := zI 1) (by decide) (v := zI (-1)) ?_ ?_
    · rw [c_noS0 u1, Option.bind_some, if_neg (show ¬ zI 1 = 0 by decide)]
      simp (disch := omega) only [↓reduceIte, and_self, true_and, and_true, false_and, and_false, Int.reduceEq, Int.reduceLT, Int.reduceLE, sw, Option.bind_some, zl0, zl1, zl2, zl3, zl4, zl5, zl6, zl7, zl8, zl9, zl10, zl20, zl21, zl28, zl33, zl34, zI_neg, zI_add, zI_sub, zI_mul, zI_lt, zI_le, zI_eq, zI_ib, zI_ix, if_pos, if_neg, F_X11_answer, F_X11_refuse, F_X12_tells, F_X12_refused, if_true, if_false]
    · rw [m_isS0 u2, Option.bind_some, if_pos (show zI 0 = 0 by decide)]
      simp (disch := omega) only [↓reduceIte, and_self, true_and, and_true, false_and, and_false, Int.reduceEq, Int.reduceLT, Int.reduceLE, sw, Option.bind_some, zl0, zl1, zl2, zl3, zl4, zl5, zl6, zl7, zl8, zl9, zl10, zl20, zl21, zl28, zl33, zl34, zI_neg, zI_add, zI_sub, zI_mul, zI_lt, zI_le, zI_eq, zI_ib, zI_ix, if_pos, if_neg, F_X11_answer, F_X11_refuse, F_X12_tells, F_X12_refused, if_true, if_false]
  · have L : Ld σC s1 n nb t hd ac μ un := ⟨⟨l1, l2, l3, l4⟩, ⟨g, g8, g9⟩, hm, ⟨hy, hyn⟩, ht, hb, hn, hk, hp, hi⟩
    have T := tC_t l4
    have h4 := g.1.2.1
    have z99 : (99 : Int32) = zI 99 := by decide
    rcases (show ¬ (0 ≤ z ∧ z < n) ∨ ∃ s : Nat, z = s ∧ s < n from if q : 0 ≤ z ∧ z < n then Or.inr ⟨z.toNat, by omega, by omega⟩ else Or.inl q) with q | ⟨s, rfl, hs⟩
    · refine q_fin h (w := zI 1) (by decide) (v := zI (-1)) ?_ ?_
      · rw [show F_X11_noService σC (zI z) = some (zI 1) from (c_noS l1 l3 T.1 ht.1.1 h4 ⟨hz1, hz2⟩).trans (congrArg some (if_neg q)), Option.bind_some, if_neg (show ¬ zI 1 = 0 by decide)]
        simp (disch := omega) only [↓reduceIte, and_self, true_and, and_true, false_and, and_false, Int.reduceEq, Int.reduceLT, Int.reduceLE, sw, Option.bind_some, zl0, zl1, zl2, zl3, zl4, zl5, zl6, zl7, zl8, zl9, zl10, zl20, zl21, zl28, zl33, zl34, zI_neg, zI_add, zI_sub, zI_mul, zI_lt, zI_le, zI_eq, zI_ib, zI_ix, if_pos, if_neg, F_X11_answer, F_X11_refuse, F_X12_tells, F_X12_refused, if_true, if_false]
      · rw [show F_X12_isService s1 (zI z) = some (zI 0) from (m_isS hm l2 h4 ⟨hz1, hz2⟩).trans (congrArg some (if_neg q)), Option.bind_some, if_pos (show zI 0 = 0 by decide)]
        simp (disch := omega) only [↓reduceIte, and_self, true_and, and_true, false_and, and_false, Int.reduceEq, Int.reduceLT, Int.reduceLE, sw, Option.bind_some, zl0, zl1, zl2, zl3, zl4, zl5, zl6, zl7, zl8, zl9, zl10, zl20, zl21, zl28, zl33, zl34, zI_neg, zI_add, zI_sub, zI_mul, zI_lt, zI_le, zI_eq, zI_ib, zI_ix, if_pos, if_neg, F_X11_answer, F_X11_refuse, F_X12_tells, F_X12_refused, if_true, if_false]
    · rw [show F_X11_noService σC (zI s) = some (zI 0) from (c_noS l1 l3 T.1 ht.1.1 h4 ⟨hz1, hz2⟩).trans (congrArg some (if_pos (by omega))), Option.bind_some, if_pos (show zI 0 = 0 by decide), show F_X12_isService s1 (zI s) = some (zI 1) from (m_isS hm l2 h4 ⟨hz1, hz2⟩).trans (congrArg some (if_pos (by omega))), Option.bind_some, if_neg (show ¬ zI 1 = 0 by decide)]
      rcases (show w < 0 ∨ (0 ≤ w ∧ w ≤ 99) ∨ 99 < w by omega) with q | q | q
      · refine q_fin h (w := zI 2) (by decide) (v := zI (-1)) ?_ ?_
        · simp (disch := omega) only [z99, ↓reduceIte, and_self, true_and, and_true, false_and, and_false, Int.reduceEq, Int.reduceLT, Int.reduceLE, sw, Option.bind_some, zl0, zl1, zl2, zl3, zl4, zl5, zl6, zl7, zl8, zl9, zl10, zl20, zl21, zl28, zl33, zl34, zI_neg, zI_add, zI_sub, zI_mul, zI_lt, zI_le, zI_eq, zI_ib, zI_ix, if_pos, if_neg, F_X11_answer, F_X11_refuse, F_X12_tells, F_X12_refused, if_true, if_false]
        · simp (disch := omega) only [z99, m_in, ↓reduceIte, and_self, true_and, and_true, false_and, and_false, Int.reduceEq, Int.reduceLT, Int.reduceLE, sw, Option.bind_some, zl0, zl1, zl2, zl3, zl4, zl5, zl6, zl7, zl8, zl9, zl10, zl20, zl21, zl28, zl33, zl34, zI_neg, zI_add, zI_sub, zI_mul, zI_lt, zI_le, zI_eq, zI_ib, zI_ix, if_pos, if_neg, F_X11_answer, F_X11_refuse, F_X12_tells, F_X12_refused, if_true, if_false]
      · have y' : ∀ σ, YR σ 3 μ n → YR (si σ 6 s (zI w)) 3 (fun i => if i = 7 * s + 5 then w else μ i) n := by
          intro σ hY
          refine ⟨fun i hi => ⟨?_, ?_, ?_⟩, fun r hr => ?_, ?_⟩
          all_goals (try dsimp only)
          · rw [si_rd, if_neg (by omega), if_neg (by omega)]; exact (hY.1 i hi).1
          · rw [si_rd, if_neg (by omega), if_neg (by omega)]; exact (hY.1 i hi).2.1
          · rw [si_rd]
            by_cases e : i = s
            · rw [if_pos (by omega), if_pos (by omega)]
            · rw [if_neg (by omega), if_neg (by omega)]; exact (hY.1 i hi).2.2
          · rw [si_rd, if_neg (by omega), if_neg (by omega)]; exact hY.2.1 r hr
          · rw [si_rd, if_neg (by omega), if_neg (by omega)]; exact hY.2.2
        have g' : Gd (fun i => if i = 7 * s + 5 then w else μ i) n (μ 32).toNat := by
          refine ⟨g.1, fun i hi => ?_, fun i hi => ?_, ?_⟩
          · simp (disch := omega) only [if_neg]
            exact g.2.1 i hi
          · have := g.2.2.1 i hi
            simp (disch := omega) only [if_neg]
            refine ⟨this.1, this.2.1, ?_⟩
            split
            · omega
            · exact this.2.2
          · simp (disch := omega) only [if_neg]
            exact g.2.2.2
        have st : sT (fun i => if i = 7 * s + 5 then w else μ i) μ n := fun i hi => by
          simp (disch := omega) only [if_neg, and_self]
        obtain ⟨x2, x3, x1, e1, e2, e3, e4, e5, e6⟩ := act1 h L (k := 7 * s + 5) (a := 6) (j := s) (v := w) (by omega) (by omega) (hy.1 s hs).2.2 y' g' st
        have ib5 : ib (7 * zI (s : Int) + 5) 534 := by
          rw [zl7, zl5, zI_mul, zI_add, zI_ib (by omega) (by omega)]
          omega
        have ix5 : ix (7 * zI (s : Int) + 5) = 7 * s + 5 := by
          rw [zl7, zl5, zI_mul, zI_add, zI_ix (by omega) (by omega)]
          omega
        refine ⟨zI (μ (7 * s + 5)), _, _, ?_, ?_, e6⟩
        · rw [if_neg (show ¬ zI w < 0 from by rw [zl0, zI_lt (by omega) (by omega) (by omega) (by omega)]; omega), if_pos (show zI w ≤ 99 from by rw [z99, zI_le (by omega) (by omega) (by omega) (by omega)]; omega), e1, Option.bind_some, if_pos (show ib (zI (s : Int)) 4 from by rw [zI_ib (by omega) (by omega)]; omega), zI_ix (by omega) (by omega), Int.toNat_natCast, sw, e3, Option.bind_some, e2]
          rfl
        · rw [show F_X12_in s1 (zI w) 0 99 = some (zI 1) from (m_in s1 ⟨hw1, hw2⟩ (b := 0) (c := 99) (by omega) (by omega)).trans (congrArg some (if_pos (by omega))), Option.bind_some, if_neg (by decide), F_X12_changes, e4, Option.bind_some, if_pos ib5, ix5, sw, e5]
          rfl
      · refine q_fin h (w := zI 2) (by decide) (v := zI (-1)) ?_ ?_
        · simp (disch := omega) only [z99, ↓reduceIte, and_self, true_and, and_true, false_and, and_false, Int.reduceEq, Int.reduceLT, Int.reduceLE, sw, Option.bind_some, zl0, zl1, zl2, zl3, zl4, zl5, zl6, zl7, zl8, zl9, zl10, zl20, zl21, zl28, zl33, zl34, zI_neg, zI_add, zI_sub, zI_mul, zI_lt, zI_le, zI_eq, zI_ib, zI_ix, if_pos, if_neg, F_X11_answer, F_X11_refuse, F_X12_tells, F_X12_refused, if_true, if_false]
        · simp (disch := omega) only [z99, m_in, ↓reduceIte, and_self, true_and, and_true, false_and, and_false, Int.reduceEq, Int.reduceLT, Int.reduceLE, sw, Option.bind_some, zl0, zl1, zl2, zl3, zl4, zl5, zl6, zl7, zl8, zl9, zl10, zl20, zl21, zl28, zl33, zl34, zI_neg, zI_add, zI_sub, zI_mul, zI_lt, zI_le, zI_eq, zI_ib, zI_ix, if_pos, if_neg, F_X11_answer, F_X11_refuse, F_X12_tells, F_X12_refused, if_true, if_false]
theorem sp_become : Sp_become Inv := by
  intro σC σM i j h
  have h := Inv_0 h
  obtain ⟨z, hz1, hz2, rfl⟩ := zI_of i
  obtain ⟨w, hw1, hw2, rfl⟩ := zI_of j
  unfold F_X11_become F_X12_become F_X11_become_16 F_X12_become_21
  rw [sw]
  generalize si σM 0 0 0 = s1 at h ⊢
  rcases h.2.2.2 with ⟨u1, u2⟩ | ⟨n, nb, t, hd, ac, μ, un, ⟨⟨l1, l2, l3, l4⟩, ⟨g, g8, g9⟩, hm, ⟨hy, hyn⟩, ht, hb, hn, hk, hp, hi⟩, ca⟩
  · refine q_fin h (w := zI 1) (by decide) (v := zI (-1)) ?_ ?_
    · rw [if_pos u1]
      simp (disch := omega) only [↓reduceIte, and_self, true_and, and_true, false_and, and_false, Int.reduceEq, Int.reduceLT, Int.reduceLE, sw, Option.bind_some, zl0, zl1, zl2, zl3, zl4, zl5, zl6, zl7, zl8, zl9, zl10, zl20, zl21, zl28, zl33, zl34, zI_neg, zI_add, zI_sub, zI_mul, zI_lt, zI_le, zI_eq, zI_ib, zI_ix, if_pos, if_neg, F_X11_answer, F_X11_refuse, F_X12_tells, F_X12_refused, if_true, if_false]
    · rw [if_pos u2]
      simp (disch := omega) only [↓reduceIte, and_self, true_and, and_true, false_and, and_false, Int.reduceEq, Int.reduceLT, Int.reduceLE, sw, Option.bind_some, zl0, zl1, zl2, zl3, zl4, zl5, zl6, zl7, zl8, zl9, zl10, zl20, zl21, zl28, zl33, zl34, zI_neg, zI_add, zI_sub, zI_mul, zI_lt, zI_le, zI_eq, zI_ib, zI_ix, if_pos, if_neg, F_X11_answer, F_X11_refuse, F_X12_tells, F_X12_refused, if_true, if_false]
  · have L : Ld σC s1 n nb t hd ac μ un := ⟨⟨l1, l2, l3, l4⟩, ⟨g, g8, g9⟩, hm, ⟨hy, hyn⟩, ht, hb, hn, hk, hp, hi⟩
    have T := tC_t l4
    have h4 := g.1.2.1
    rw [if_neg (show ¬ σC.1 0 13 = 0 by rw [l1]; decide), if_neg (show ¬ s1.1 0 25 = 0 by rw [l2]; decide)]
    rcases (show z < 0 ∨ (∃ r : Nat, z = r ∧ r < 4) ∨ 4 ≤ z from if q : z < 0 then Or.inl q else if q2 : z < 4 then Or.inr (Or.inl ⟨z.toNat, by omega, by omega⟩) else Or.inr (Or.inr (by omega))) with q | ⟨r, rfl, hr⟩ | q
    · refine q_fin h (w := zI 1) (by decide) (v := zI (-1)) ?_ ?_
      · simp (disch := omega) only [↓reduceIte, and_self, true_and, and_true, false_and, and_false, Int.reduceEq, Int.reduceLT, Int.reduceLE, sw, Option.bind_some, zl0, zl1, zl2, zl3, zl4, zl5, zl6, zl7, zl8, zl9, zl10, zl20, zl21, zl28, zl33, zl34, zI_neg, zI_add, zI_sub, zI_mul, zI_lt, zI_le, zI_eq, zI_ib, zI_ix, if_pos, if_neg, F_X11_answer, F_X11_refuse, F_X12_tells, F_X12_refused, if_true, if_false]
      · simp (disch := omega) only [m_in, ↓reduceIte, and_self, true_and, and_true, false_and, and_false, Int.reduceEq, Int.reduceLT, Int.reduceLE, sw, Option.bind_some, zl0, zl1, zl2, zl3, zl4, zl5, zl6, zl7, zl8, zl9, zl10, zl20, zl21, zl28, zl33, zl34, zI_neg, zI_add, zI_sub, zI_mul, zI_lt, zI_le, zI_eq, zI_ib, zI_ix, if_pos, if_neg, F_X11_answer, F_X11_refuse, F_X12_tells, F_X12_refused, if_true, if_false]
    · obtain ⟨M, M0, M1, mR, mM, gM⟩ : ∃ M : Int, 0 ≤ M ∧ M ≤ 100 ∧ F_X9_mostOfRule σC (zI r) = some (zI M) ∧ ((if 2 ≤ zI (r : Int) then (if zI (r : Int) = 2 then F_X12_become_51 s1 (zI r) (zI w) (zI w) 0 100 else F_X12_become_51 s1 (zI r) (zI w) (zI w) 0 99) else F_X12_become_51 s1 (zI r) (zI w) (zI w) 0 50) = F_X12_become_51 s1 (zI r) (zI w) (zI w) 0 (zI M) ∧ ∀ v : Int, 0 ≤ v → v ≤ M → Gd (fun i => if i = 28 + r then v else μ i) n (μ 32).toNat) := by
        have gg : ∀ (M : Int), (M = 50 ∧ r < 2 ∨ M = 100 ∧ r = 2 ∨ M = 99 ∧ r = 3) → ∀ v : Int, 0 ≤ v → v ≤ M → Gd (fun i => if i = 28 + r then v else μ i) n (μ 32).toNat := by
          intro M hM v v0 v1
          refine ⟨g.1, fun i hi => ?_, fun i hi => ?_, ?_⟩
          · simp (disch := omega) only [if_neg]
            exact g.2.1 i hi
          · simp (disch := omega) only [if_neg]
            exact g.2.2.1 i hi
          · have := g.2.2.2
            refine ⟨?_, ?_, ?_, ?_, ?_⟩
            · simp only; split <;> omega
            · simp only; split <;> omega
            · simp only; split <;> omega
            · simp only; split <;> omega
            · simp (disch := omega) only [if_neg]
              exact this.2.2.2.2
        rcases (show r = 0 ∨ r = 1 ∨ r = 2 ∨ r = 3 by omega) with rfl | rfl | rfl | rfl
        · exact ⟨50, by omega, by omega, rfl, rfl, gg 50 (by omega)⟩
        · exact ⟨50, by omega, by omega, rfl, rfl, gg 50 (by omega)⟩
        · exact ⟨100, by omega, by omega, rfl, rfl, gg 100 (by omega)⟩
        · exact ⟨99, by omega, by omega, rfl, rfl, gg 99 (by omega)⟩
      rw [show F_X12_in s1 (zI r) 0 3 = some (zI 1) from (m_in s1 ⟨hz1, hz2⟩ (b := 0) (c := 3) (by omega) (by omega)).trans (congrArg some (if_pos (by omega))), Option.bind_some, if_neg (show ¬ zI 1 = 0 by decide), mM, F_X12_become_51, if_neg (show ¬ zI (r : Int) < 0 from by rw [zl0, zI_lt (by omega) (by omega) (by omega) (by omega)]; omega), if_pos (show zI (r : Int) < 4 from by rw [zl4, zI_lt (by omega) (by omega) (by omega) (by omega)]; omega), mR, Option.bind_some]
      have mI : F_X12_in s1 (zI w) 0 (zI M) = some (if 0 ≤ w ∧ w ≤ M then zI 1 else zI 0) := m_in s1 ⟨hw1, hw2⟩ (b := 0) (by omega) (by omega)
      rw [mI, Option.bind_some]
      by_cases q : 0 ≤ w ∧ w ≤ M
      · have y' : ∀ σ, YR σ 3 μ n → YR (si σ 7 r (zI w)) 3 (fun i => if i = 28 + r then w else μ i) n := by
          intro σ hY
          refine ⟨fun i hi => ⟨?_, ?_, ?_⟩, fun r' hr' => ?_, ?_⟩
          all_goals (try dsimp only)
          · rw [si_rd, if_neg (by omega), if_neg (by omega)]; exact (hY.1 i hi).1
          · rw [si_rd, if_neg (by omega), if_neg (by omega)]; exact (hY.1 i hi).2.1
          · rw [si_rd, if_neg (by omega), if_neg (by omega)]; exact (hY.1 i hi).2.2
          · rw [si_rd]
            by_cases e : r' = r
            · rw [if_pos (by omega), if_pos (by omega)]
            · rw [if_neg (by omega), if_neg (by omega)]; exact hY.2.1 r' hr'
          · rw [si_rd, if_neg (by omega), if_neg (by omega)]; exact hY.2.2
        have st : sT (fun i => if i = 28 + r then w else μ i) μ n := fun i hi => by
          simp (disch := omega) only [if_neg, and_self]
        obtain ⟨x2, x3, x1, e1, e2, e3, e4, e5, e6⟩ := act1 h L (k := 28 + r) (a := 7) (j := r) (v := w) (by omega) (by omega) (hy.2.1 r hr) y' (gM w q.1 q.2) st
        have ib5 : ib (28 + zI (r : Int)) 534 := by
          rw [zl28, zI_add, zI_ib (by omega) (by omega)]
          omega
        have ix5 : ix (28 + zI (r : Int)) = 28 + r := by
          rw [zl28, zI_add, zI_ix (by omega) (by omega)]
          omega
        refine ⟨zI (μ (28 + r)), _, _, ?_, ?_, e6⟩
        · rw [if_neg (show ¬ zI w < 0 from by rw [zl0, zI_lt (by omega) (by omega) (by omega) (by omega)]; omega), if_pos (show zI w ≤ zI M from by rw [zI_le (by omega) (by omega) (by omega) (by omega)]; omega), e1, Option.bind_some, if_pos (show ib (zI (r : Int)) 4 from by rw [zI_ib (by omega) (by omega)]; omega), zI_ix (by omega) (by omega), Int.toNat_natCast, sw, e3, Option.bind_some, e2]
          rfl
        · rw [if_pos q, if_neg (by decide), F_X12_changes, e4, Option.bind_some, if_pos ib5, ix5, sw, e5]
          rfl
      · refine q_fin h (w := zI 2) (by decide) (v := zI (-1)) ?_ ?_
        · by_cases q2 : w < 0
          · rw [if_pos (show zI w < 0 from by rw [zl0, zI_lt (by omega) (by omega) (by omega) (by omega)]; omega)]
            rfl
          · rw [if_neg (show ¬ zI w < 0 from by rw [zl0, zI_lt (by omega) (by omega) (by omega) (by omega)]; omega), if_neg (show ¬ zI w ≤ zI M from by rw [zI_le (by omega) (by omega) (by omega) (by omega)]; omega)]
            rfl
        · rw [if_neg q, if_pos (by decide)]
          rfl
    · refine q_fin h (w := zI 1) (by decide) (v := zI (-1)) ?_ ?_
      · simp (disch := omega) only [↓reduceIte, and_self, true_and, and_true, false_and, and_false, Int.reduceEq, Int.reduceLT, Int.reduceLE, sw, Option.bind_some, zl0, zl1, zl2, zl3, zl4, zl5, zl6, zl7, zl8, zl9, zl10, zl20, zl21, zl28, zl33, zl34, zI_neg, zI_add, zI_sub, zI_mul, zI_lt, zI_le, zI_eq, zI_ib, zI_ix, if_pos, if_neg, F_X11_answer, F_X11_refuse, F_X12_tells, F_X12_refused, if_true, if_false]
      · simp (disch := omega) only [m_in, ↓reduceIte, and_self, true_and, and_true, false_and, and_false, Int.reduceEq, Int.reduceLT, Int.reduceLE, sw, Option.bind_some, zl0, zl1, zl2, zl3, zl4, zl5, zl6, zl7, zl8, zl9, zl10, zl20, zl21, zl28, zl33, zl34, zI_neg, zI_add, zI_sub, zI_mul, zI_lt, zI_le, zI_eq, zI_ib, zI_ix, if_pos, if_neg, F_X11_answer, F_X11_refuse, F_X12_tells, F_X12_refused, if_true, if_false]
