/-! BUYERS -/
def fl1 (μ : Nat → Int) (n s : Nat) (p : Nat) : Int := if pr μ s (μ (7 * s + 1)) ≤ pr μ s p ∧ spw μ n s p ≤ al μ n then 1 else 0
theorem c_freely {σ : Sto} {μ : Nat → Int} {n c t : Nat} (l3 : σ.2.2 0 11 = some t) (T : tC t) (hy : YR σ 3 μ n) (ht : TR σ t μ n) (g : Gd μ n c) {s : Nat} (hs : s < n) : F_X11_freely_55 FU σ (zI s) (zI (al μ n)) (zI (pr μ s (μ (7 * s + 1)))) 0 0 = some (zI (sz 21 (fl1 μ n s)), si σ 0 18 (zI 0)) := by
  have h4 := g.1.2.1
  have e0 := (g.2.2.1 s hs).2.1
  have b0 := pr_bd g.2.1 hs e0.1 e0.2
  have b3 := al_bd0 g
  refine sum_loop (L := fun k a i => F_X11_freely_55 k σ (zI s) (zI (al μ n)) (zI (pr μ s (μ (7 * s + 1)))) a i) (R := fun z => some (zI z, si σ 0 18 (zI 0))) (n := 21) (f := fl1 μ n s) (fun k acc i hi _ => ?_) (fun k => ?_) FU (FU_lt (by omega))
  · have r1 := t_pr ht s hs i (by omega)
    have b1 := pr_bd g.2.1 hs (p := (i : Int)) (by omega) (by omega)
    have b2 := spw_bd g hs (p := (i : Int)) (by omega)
    show F_X11_freely_55 (k + 1) σ (zI s) (zI (al μ n)) (zI (pr μ s (μ (7 * s + 1)))) (zI acc) (zI i) = _
    rw [F_X11_freely_55, l3, Option.bind_some, Option.bind_some, y_spentWith yC_3 T hy ht g hs, Option.bind_some, zl21, zl20, zl1]
    simp (disch := omega) only [zI_lt, zI_mul, zI_add, zI_ib, zI_ix]
    rw [if_neg (by omega), if_pos T.1, if_pos (by omega), show ((s : Int) * 21 + (i : Int)).toNat = 21 * s + i by omega, r1]
    simp (disch := omega) only [zI_lt]
    unfold fl1
    by_cases q : pr μ s (μ (7 * s + 1)) ≤ pr μ s i
    · by_cases q2 : spw μ n s i ≤ al μ n
      · rw [if_neg (by omega), if_neg (by omega), if_pos ⟨q, q2⟩]
      · rw [if_neg (by omega), if_pos (by omega), if_neg (fun x => q2 x.2), Int.add_zero]
    · rw [if_pos (by omega), if_neg (fun x => q x.1), Int.add_zero]
  · show F_X11_freely_55 (k + 1) σ (zI s) (zI (al μ n)) (zI (pr μ s (μ (7 * s + 1)))) (zI (sz 21 (fl1 μ n s))) (zI 21) = _
    rw [F_X11_freely_55, if_pos (by decide)]
    rfl
theorem m_freely {σ : Sto} {μ : Nat → Int} {n c : Nat} (h : MS σ μ n) (g : Gd μ n c) {s : Nat} (hs : s < n) : F_X12_freely_23 FU σ (zI s) 0 0 = some (zI (sz 21 (fl1 μ n s)), si (si σ 0 1 (zI 0)) 0 2 (-1)) := by
  have h4 := g.1.2.1
  have e0 := (g.2.2.1 s hs).2.1
  have b0 := pr_bd g.2.1 hs e0.1 e0.2
  have b3 := al_bd0 g
  refine sum_loop (L := fun k a i => F_X12_freely_23 k σ (zI s) a i) (R := fun z => some (zI z, si (si σ 0 1 (zI 0)) 0 2 (-1))) (n := 21) (f := fl1 μ n s) (fun k acc i hi _ => ?_) (fun k => ?_) FU (FU_lt (by omega))
  · have b1 := pr_bd g.2.1 hs (p := (i : Int)) (by omega) (by omega)
    show F_X12_freely_23 (k + 1) σ (zI s) (zI acc) (zI i) = _
    rw [F_X12_freely_23, m_profit h g.2.1 h4 hs (by omega) (by omega), Option.bind_some, m_of1 h (by omega), Option.bind_some, m_profit h g.2.1 h4 hs e0.1 e0.2, Option.bind_some, m_keptBy h g hs (by omega), Option.bind_some, zl20, zl1, zl0]
    simp (disch := omega) only [zI_lt, zI_add]
    rw [if_neg (by omega)]
    unfold fl1
    by_cases q : pr μ s (μ (7 * s + 1)) ≤ pr μ s i
    · by_cases q2 : spw μ n s i ≤ al μ n
      · rw [if_neg (by omega), if_pos q2, if_neg (by decide), if_pos ⟨q, q2⟩]
      · rw [if_neg (by omega), if_neg q2, if_pos rfl, if_neg (fun x => q2 x.2)]
    · rw [if_pos (by omega), if_neg (fun x => q x.1)]
  · show F_X12_freely_23 (k + 1) σ (zI s) (zI (sz 21 (fl1 μ n s))) (zI 21) = _
    rw [F_X12_freely_23, if_pos (by decide)]
    rfl
theorem sp_freely : Sp_freely Inv := by
  intro σC σM i h
  have h := Inv_0 h
  obtain ⟨z, hz1, hz2, rfl⟩ := zI_of i
  unfold F_X11_freely F_X12_freely
  rw [sw]
  generalize si σM 0 0 0 = s1 at h ⊢
  rcases h.2.2.2 with ⟨u1, u2⟩ | ⟨n, nb, t, hd, ac, μ, un, ⟨⟨l1, l2, l3, l4⟩, ⟨g, g8, g9⟩, hm, ⟨hy, hyn⟩, ht, hb, hn, hk, hp, hi⟩, ca⟩
  · refine q_fin h (w := zI 1) (by decide) (v := zI (-1)) ?_ ?_
    · rw [c_noS0 u1, Option.bind_some, if_neg (show ¬ zI 1 = 0 by decide)]
      simp (disch := omega) only [↓reduceIte, and_self, true_and, and_true, false_and, and_false, Int.reduceEq, Int.reduceLT, Int.reduceLE, sw, Option.bind_some, zl0, zl1, zl2, zl3, zl4, zl5, zl6, zl7, zl8, zl9, zl10, zl20, zl21, zl28, zl33, zl34, zI_neg, zI_add, zI_sub, zI_mul, zI_lt, zI_le, zI_eq, zI_ib, zI_ix, if_pos, if_neg, F_X11_answer, F_X11_refuse, F_X12_tells, F_X12_refused, if_true, if_false]
    · rw [m_isS0 u2, Option.bind_some, if_pos (show zI 0 = 0 by decide)]
      simp (disch := omega) only [↓reduceIte, and_self, true_and, and_true, false_and, and_false, Int.reduceEq, Int.reduceLT, Int.reduceLE, sw, Option.bind_some, zl0, zl1, zl2, zl3, zl4, zl5, zl6, zl7, zl8, zl9, zl10, zl20, zl21, zl28, zl33, zl34, zI_neg, zI_add, zI_sub, zI_mul, zI_lt, zI_le, zI_eq, zI_ib, zI_ix, if_pos, if_neg, F_X11_answer, F_X11_refuse, F_X12_tells, F_X12_refused, if_true, if_false]
  · have T := tC_t l4
    have h4 := g.1.2.1
    rcases (show ¬ (0 ≤ z ∧ z < n) ∨ ∃ s : Nat, z = s ∧ s < n from if q : 0 ≤ z ∧ z < n then Or.inr ⟨z.toNat, by omega, by omega⟩ else Or.inl q) with q | ⟨s, rfl, hs⟩
    · refine q_fin h (w := zI 1) (by decide) (v := zI (-1)) ?_ ?_
      · rw [show F_X11_noService σC (zI z) = some (zI 1) from (c_noS l1 l3 T.1 ht.1.1 h4 ⟨hz1, hz2⟩).trans (congrArg some (if_neg q)), Option.bind_some, if_neg (show ¬ zI 1 = 0 by decide)]
        simp (disch := omega) only [↓reduceIte, and_self, true_and, and_true, false_and, and_false, Int.reduceEq, Int.reduceLT, Int.reduceLE, sw, Option.bind_some, zl0, zl1, zl2, zl3, zl4, zl5, zl6, zl7, zl8, zl9, zl10, zl20, zl21, zl28, zl33, zl34, zI_neg, zI_add, zI_sub, zI_mul, zI_lt, zI_le, zI_eq, zI_ib, zI_ix, if_pos, if_neg, F_X11_answer, F_X11_refuse, F_X12_tells, F_X12_refused, if_true, if_false]
      · rw [show F_X12_isService s1 (zI z) = some (zI 0) from (m_isS hm l2 h4 ⟨hz1, hz2⟩).trans (congrArg some (if_neg q)), Option.bind_some, if_pos (show zI 0 = 0 by decide)]
        simp (disch := omega) only [↓reduceIte, and_self, true_and, and_true, false_and, and_false, Int.reduceEq, Int.reduceLT, Int.reduceLE, sw, Option.bind_some, zl0, zl1, zl2, zl3, zl4, zl5, zl6, zl7, zl8, zl9, zl10, zl20, zl21, zl28, zl33, zl34, zI_neg, zI_add, zI_sub, zI_mul, zI_lt, zI_le, zI_eq, zI_ib, zI_ix, if_pos, if_neg, F_X11_answer, F_X11_refuse, F_X12_tells, F_X12_refused, if_true, if_false]
    · have e0 := (g.2.2.1 s hs).2.1
      have r1 := t_pr ht s hs (μ (7 * s + 1)).toNat (by omega)
      rw [show ((μ (7 * s + 1)).toNat : Int) = μ (7 * s + 1) by omega] at r1
      refine q_fin h (w := zI 0) (by decide) (v := zI (sz 21 (fl1 μ n s))) ?_ ?_
      · rw [show F_X11_noService σC (zI s) = some (zI 0) from (c_noS l1 l3 T.1 ht.1.1 h4 ⟨hz1, hz2⟩).trans (congrArg some (if_pos (by omega))), Option.bind_some, if_pos (show zI 0 = 0 by decide), l3, Option.bind_some, y_allowed yC_3 T hy ht g, Option.bind_some, Option.bind_some, if_pos T.1, zl21]
        simp (disch := omega) only [zI_ib, zI_ix, Int.toNat_natCast, (hy.1 s hs).2.1, zI_mul, zI_add]
        rw [if_pos (by omega), if_pos (by omega), sw, show ((s : Int) * 21 + μ (7 * s + 1)).toNat = 21 * s + (μ (7 * s + 1)).toNat by omega, r1]
        exact c_freely l3 T hy ht g hs
      · rw [show F_X12_isService s1 (zI s) = some (zI 1) from (m_isS hm l2 h4 ⟨hz1, hz2⟩).trans (congrArg some (if_pos (by omega))), Option.bind_some, if_neg (show ¬ zI 1 = 0 by decide)]
        exact m_freely hm g hs
def bu (μ : Nat → Int) (un : Nat → Nat → Int) (n b w : Nat) : Int := sz n (fun s => un b s * μ (7 * s + w))
def uns (un : Nat → Nat → Int) (n b : Nat) : Int := sz n (fun s => un b s)
def BY (nb n : Nat) (un : Nat → Nat → Int) : Prop := n ≤ 4 ∧ nb ≤ 4 ∧ ∀ b, b < nb → ∀ s, s < n → 0 ≤ un b s ∧ un b s ≤ 99
theorem bu_bd {μ : Nat → Int} {un : Nat → Nat → Int} {n nb c b : Nat} (g : Gd μ n c) (hB : BY nb n un) (hb : b < nb) {w : Nat} (hw : w = 0 ∨ w = 1) : 0 ≤ bu μ un n b w ∧ bu μ un n b w ≤ 7920 := by
  have := sz_bd (n := n) (f := fun s => un b s * μ (7 * s + w)) (a := 0) (b := 1980) (fun i hi => by
    have e := hB.2.2 b hb i hi
    have ew : 0 ≤ μ (7 * i + w) ∧ μ (7 * i + w) ≤ 20 := by
      rcases hw with rfl | rfl
      · exact (g.2.2.1 i hi).1
      · exact (g.2.2.1 i hi).2.1
    exact mul_bd (a := 99) (b := 20) e.1 e.2 ew.1 ew.2)
  have h4 := g.1.2.1
  unfold bu
  omega
theorem t_burden {σ : Sto} {t a n nb b : Nat} {un : Nat → Nat → Int} {p : Nat → Int} (ht : (shC t).1 = 9) (h2 : shC a = (20, 4)) (hn : σ.1 t 0 = zI n) (h4 : n ≤ 4) (hb : b < nb) (hnb : nb ≤ 4) (hu : ∀ s, s < n → σ.1 (t + 3) (4 * b + s) = zI (un b s)) (hp : ∀ s, s < n → σ.1 a s = zI (p s)) : F_X9_burden σ t (zI b) a = some (zI (sz n (fun s => un b s * p s))) := by
  rw [F_X9_burden, zl0]
  refine sum_loop (L := fun k c i => F_X9_burden_5 k σ t (zI b) a c i) (R := fun z => some (zI z)) (f := fun s => un b s * p s) (fun k acc i hi _ => ?_) (fun k => ?_) FU (FU_lt (by omega))
  · have e1 := hp i hi
    have e2 := hu i hi
    simp only [F_X9_burden_5, ht, h2, hn, sw, if_true]
    simp (disch := omega) only [zl4, zl1, zI_le, zI_ix, zI_ib, Int.toNat_natCast, e1, zI_mul, zI_add]
    have e4 : ((b : Int) * 4 + i).toNat = 4 * b + i := by omega
    rw [if_neg (by omega), if_pos (by omega), if_pos (by omega), e4, e2, zI_mul, zI_add]
  · simp only [F_X9_burden_5, ht, hn, if_true]
    rw [if_pos (Int32.le_refl _)]
theorem t_units {σ : Sto} {t n nb b : Nat} {un : Nat → Nat → Int} (ht : (shC t).1 = 9) (hn : σ.1 t 0 = zI n) (h4 : n ≤ 4) (hb : b < nb) (hnb : nb ≤ 4) (hu : ∀ s, s < n → σ.1 (t + 3) (4 * b + s) = zI (un b s)) : F_X9_unitsTogether σ t (zI b) = some (zI (uns un n b)) := by
  rw [F_X9_unitsTogether, zl0]
  refine sum_loop (L := fun k c i => F_X9_unitsTogether_4 k σ t (zI b) c i) (R := fun z => some (zI z)) (f := fun s => un b s) (fun k acc i hi _ => ?_) (fun k => ?_) FU (FU_lt (by omega))
  · have e2 := hu i hi
    simp only [F_X9_unitsTogether_4, ht, hn, sw, if_true]
    simp (disch := omega) only [zl4, zl1, zI_le, zI_ix, zI_ib, zI_mul, zI_add]
    have e4 : ((b : Int) * 4 + i).toNat = 4 * b + i := by omega
    rw [if_neg (by omega), if_pos (by omega), e4, e2, zI_add]
  · simp only [F_X9_unitsTogether_4, ht, hn, if_true]
    rw [if_pos (Int32.le_refl _)]
theorem m_burden {σ : Sto} {μ : Nat → Int} {n nb b w : Nat} {un : Nat → Nat → Int} (h : MS σ μ n) (h4 : n ≤ 4) (hb : b < nb) (hnb : nb ≤ 4) (hw : w < 7) (hu : ∀ s, s < n → σ.1 10 (4 * b + s) = zI (un b s)) : F_X12_burden σ (zI b) (zI w) = some (zI (bu μ un n b w)) := by
  rw [F_X12_burden, zl0]
  refine sum_loop (L := fun k c i => F_X12_burden_5 k σ (zI b) (zI w) c i) (R := fun z => some (zI z)) (f := fun s => un b s * μ (7 * s + w)) (fun k acc i hi _ => ?_) (fun k => ?_) FU (FU_lt (by omega))
  · have e2 := hu i hi
    simp only [F_X12_burden_5, h.2, sw, m_of h (show i < 4 by omega) hw, Option.bind_some]
    simp (disch := omega) only [zl4, zl1, zI_le, zI_ix, zI_ib, zI_mul, zI_add]
    have e4 : (4 * (b : Int) + i).toNat = 4 * b + i := by omega
    rw [if_neg (by omega), if_pos (by omega), e4, e2, zI_mul, zI_add]
  · simp only [F_X12_burden_5, h.2]
    rw [if_pos (Int32.le_refl _)]
theorem m_buyer {σ : Sto} {μ : Nat → Int} {n nb b : Nat} {un : Nat → Nat → Int} (h : MS σ μ n) (h4 : n ≤ 4) (hb : b < nb) (hnb : nb ≤ 4) (hu : ∀ s, s < n → σ.1 10 (4 * b + s) = zI (un b s)) (i : Int32) : F_X12_buyer_33 FU σ (zI b) i 0 0 = F_X12_buyer_33 1 σ (zI b) i (zI (uns un n b)) (zI n) := by
  refine sum_loop (L := fun k a j => F_X12_buyer_33 k σ (zI b) i a j) (R := fun z => F_X12_buyer_33 1 σ (zI b) i (zI z) (zI n)) (f := fun s => un b s) (fun k acc s hs _ => ?_) (fun k => ?_) FU (FU_lt (by omega))
  · have e2 := hu s hs
    rw [F_X12_buyer_33, h.2, sw, zl4, zl1]
    simp (disch := omega) only [zI_le, zI_ix, zI_ib, zI_mul, zI_add]
    have e4 : (4 * (b : Int) + s).toNat = 4 * b + s := by omega
    rw [if_neg (by omega), if_pos (by omega), e4, e2, zI_add]
  · rw [F_X12_buyer_33, F_X12_buyer_33, h.2]
    simp only [Int32.le_refl, if_true]
theorem bU0 {σ : Sto} {t n nb b : Nat} {un : Nat → Nat → Int} {μ : Nat → Int} (T : tC t) (hn : σ.1 t 0 = zI n) (h4 : n ≤ 4) (hb : b < nb) (hnb : nb ≤ 4) (hu : ∀ s, s < n → σ.1 (t + 3) (4 * b + s) = zI (un b s)) (hy : YR σ 3 μ n) : F_X9_burden σ t (zI b) (3 + 1) = some (zI (bu μ un n b 0)) := t_burden T.1 yC_3.2.1 hn h4 hb hnb hu (fun s hs => (hy.1 s hs).1)
theorem bU1 {σ : Sto} {t n nb b : Nat} {un : Nat → Nat → Int} {μ : Nat → Int} (T : tC t) (hn : σ.1 t 0 = zI n) (h4 : n ≤ 4) (hb : b < nb) (hnb : nb ≤ 4) (hu : ∀ s, s < n → σ.1 (t + 3) (4 * b + s) = zI (un b s)) (hy : YR σ 3 μ n) : F_X9_burden σ t (zI b) (3 + 2) = some (zI (bu μ un n b 1)) := t_burden T.1 yC_3.2.2.1 hn h4 hb hnb hu (fun s hs => (hy.1 s hs).2.1)
theorem bM0 {σ : Sto} {μ : Nat → Int} {n nb b : Nat} {un : Nat → Nat → Int} (h : MS σ μ n) (h4 : n ≤ 4) (hb : b < nb) (hnb : nb ≤ 4) (hu : ∀ s, s < n → σ.1 10 (4 * b + s) = zI (un b s)) : F_X12_burden σ (zI b) (zI 0) = some (zI (bu μ un n b 0)) := m_burden (w := 0) h h4 hb hnb (by omega) hu
theorem bM1 {σ : Sto} {μ : Nat → Int} {n nb b : Nat} {un : Nat → Nat → Int} (h : MS σ μ n) (h4 : n ≤ 4) (hb : b < nb) (hnb : nb ≤ 4) (hu : ∀ s, s < n → σ.1 10 (4 * b + s) = zI (un b s)) : F_X12_burden σ (zI b) (zI 1) = some (zI (bu μ un n b 1)) := m_burden (w := 1) h h4 hb hnb (by omega) hu
theorem sp_buyer : Sp_buyer Inv := by
  intro σC σM i j h
  have h := Inv_0 h
  obtain ⟨z, hz1, hz2, rfl⟩ := zI_of i
  obtain ⟨w, hw1, hw2, rfl⟩ := zI_of j
  unfold F_X11_buyer F_X12_buyer F_X12_buyer_22
  rw [sw]
  generalize si σM 0 0 0 = s1 at h ⊢
  rcases h.2.2.2 with ⟨u1, u2⟩ | ⟨n, nb, t, hd, ac, μ, un, ⟨⟨l1, l2, l3, l4⟩, ⟨g, g8, g9⟩, hm, ⟨hy, hyn⟩, ht, hb, hn, hk, hp, hi⟩, ca⟩
  · refine q_fin h (w := zI 1) (by decide) (v := zI (-1)) ?_ ?_
    · rw [c_noB0 u1, Option.bind_some, if_neg (show ¬ zI 1 = 0 by decide)]
      simp (disch := omega) only [↓reduceIte, and_self, true_and, and_true, false_and, and_false, Int.reduceEq, Int.reduceLT, Int.reduceLE, sw, Option.bind_some, zl0, zl1, zl2, zl3, zl4, zl5, zl6, zl7, zl8, zl9, zl10, zl20, zl21, zl28, zl33, zl34, zI_neg, zI_add, zI_sub, zI_mul, zI_lt, zI_le, zI_eq, zI_ib, zI_ix, if_pos, if_neg, F_X11_answer, F_X11_refuse, F_X12_tells, F_X12_refused, if_true, if_false]
    · rw [m_isB0 u2, Option.bind_some, if_pos (show zI 0 = 0 by decide)]
      simp (disch := omega) only [↓reduceIte, and_self, true_and, and_true, false_and, and_false, Int.reduceEq, Int.reduceLT, Int.reduceLE, sw, Option.bind_some, zl0, zl1, zl2, zl3, zl4, zl5, zl6, zl7, zl8, zl9, zl10, zl20, zl21, zl28, zl33, zl34, zI_neg, zI_add, zI_sub, zI_mul, zI_lt, zI_le, zI_eq, zI_ib, zI_ix, if_pos, if_neg, F_X11_answer, F_X11_refuse, F_X12_tells, F_X12_refused, if_true, if_false]
  · have T := tC_t l4
    have h4 := g.1.2.1
    have hu : ∀ b, b < nb → ∀ s, s < n → σC.1 (t + 3) (4 * b + s) = zI (un b s) := fun b hb1 s hs => (hb.2.2.2 b hb1 s hs).1
    have hv : ∀ b, b < nb → ∀ s, s < n → s1.1 10 (4 * b + s) = zI (un b s) := fun b hb1 s hs => (hb.2.2.2 b hb1 s hs).2.1
    have hB : BY nb n un := ⟨h4, hb.1, fun b hb1 s hs => (hb.2.2.2 b hb1 s hs).2.2⟩
    have h4b := hb.1
    rcases (show ¬ (0 ≤ z ∧ z < nb) ∨ ∃ b : Nat, z = b ∧ b < nb from if q : 0 ≤ z ∧ z < nb then Or.inr ⟨z.toNat, by omega, by omega⟩ else Or.inl q) with q | ⟨b, rfl, hbb⟩
    · refine q_fin h (w := zI 1) (by decide) (v := zI (-1)) ?_ ?_
      · rw [show F_X11_noBuyer σC (zI z) = some (zI 1) from (c_noB l1 l3 T.1 hb.2.1 hb.1 ⟨hz1, hz2⟩).trans (congrArg some (if_neg q)), Option.bind_some, if_neg (show ¬ zI 1 = 0 by decide)]
        simp (disch := omega) only [↓reduceIte, and_self, true_and, and_true, false_and, and_false, Int.reduceEq, Int.reduceLT, Int.reduceLE, sw, Option.bind_some, zl0, zl1, zl2, zl3, zl4, zl5, zl6, zl7, zl8, zl9, zl10, zl20, zl21, zl28, zl33, zl34, zI_neg, zI_add, zI_sub, zI_mul, zI_lt, zI_le, zI_eq, zI_ib, zI_ix, if_pos, if_neg, F_X11_answer, F_X11_refuse, F_X12_tells, F_X12_refused, if_true, if_false]
      · rw [show F_X12_isBuyer s1 (zI z) = some (zI 0) from (m_isB hb.2.2.1 l2 hb.1 ⟨hz1, hz2⟩).trans (congrArg some (if_neg q)), Option.bind_some, if_pos (show zI 0 = 0 by decide)]
        simp (disch := omega) only [↓reduceIte, and_self, true_and, and_true, false_and, and_false, Int.reduceEq, Int.reduceLT, Int.reduceLE, sw, Option.bind_some, zl0, zl1, zl2, zl3, zl4, zl5, zl6, zl7, zl8, zl9, zl10, zl20, zl21, zl28, zl33, zl34, zI_neg, zI_add, zI_sub, zI_mul, zI_lt, zI_le, zI_eq, zI_ib, zI_ix, if_pos, if_neg, F_X11_answer, F_X11_refuse, F_X12_tells, F_X12_refused, if_true, if_false]
    · rcases (show w = 0 ∨ w = 1 ∨ w = 2 ∨ ¬ (0 ≤ w ∧ w ≤ 2) by omega) with rfl | rfl | rfl | q
      · refine q_fin h (w := zI 0) (by decide) (v := zI (bu μ un n b 0)) ?_ ?_
        · rw [show F_X11_noBuyer σC (zI b) = some (zI 0) from (c_noB l1 l3 T.1 hb.2.1 hb.1 ⟨hz1, hz2⟩).trans (congrArg some (if_pos (by omega))), Option.bind_some, if_pos (show zI 0 = 0 by decide)]
          simp (disch := omega) only [l3, T.1, bU0 T ht.1.1 h4 hbb hb.1 (hu b hbb) hy, ↓reduceIte, and_self, true_and, and_true, false_and, and_false, Int.reduceEq, Int.reduceLT, Int.reduceLE, sw, Option.bind_some, zl0, zl1, zl2, zl3, zl4, zl5, zl6, zl7, zl8, zl9, zl10, zl20, zl21, zl28, zl33, zl34, zI_neg, zI_add, zI_sub, zI_mul, zI_lt, zI_le, zI_eq, zI_ib, zI_ix, if_pos, if_neg, F_X11_answer, F_X11_refuse, F_X12_tells, F_X12_refused, if_true, if_false]
        · rw [show F_X12_isBuyer s1 (zI b) = some (zI 1) from (m_isB hb.2.2.1 l2 hb.1 ⟨hz1, hz2⟩).trans (congrArg some (if_pos (by omega))), Option.bind_some, if_neg (show ¬ zI 1 = 0 by decide), m_buyer hm h4 hbb hb.1 (hv b hbb), F_X12_buyer_33, hm.2, if_pos (Int32.le_refl _), F_X12_buyer_78]
          simp (disch := omega) only [m_in, bM0 hm h4 hbb hb.1 (hv b hbb), F_X12_buyer_78, ↓reduceIte, and_self, true_and, and_true, false_and, and_false, Int.reduceEq, Int.reduceLT, Int.reduceLE, sw, Option.bind_some, zl0, zl1, zl2, zl3, zl4, zl5, zl6, zl7, zl8, zl9, zl10, zl20, zl21, zl28, zl33, zl34, zI_neg, zI_add, zI_sub, zI_mul, zI_lt, zI_le, zI_eq, zI_ib, zI_ix, if_pos, if_neg, F_X11_answer, F_X11_refuse, F_X12_tells, F_X12_refused, if_true, if_false]
      · refine q_fin h (w := zI 0) (by decide) (v := zI (bu μ un n b 1)) ?_ ?_
        · rw [show F_X11_noBuyer σC (zI b) = some (zI 0) from (c_noB l1 l3 T.1 hb.2.1 hb.1 ⟨hz1, hz2⟩).trans (congrArg some (if_pos (by omega))), Option.bind_some, if_pos (show zI 0 = 0 by decide)]
          simp (disch := omega) only [l3, T.1, bU1 T ht.1.1 h4 hbb hb.1 (hu b hbb) hy, ↓reduceIte, and_self, true_and, and_true, false_and, and_false, Int.reduceEq, Int.reduceLT, Int.reduceLE, sw, Option.bind_some, zl0, zl1, zl2, zl3, zl4, zl5, zl6, zl7, zl8, zl9, zl10, zl20, zl21, zl28, zl33, zl34, zI_neg, zI_add, zI_sub, zI_mul, zI_lt, zI_le, zI_eq, zI_ib, zI_ix, if_pos, if_neg, F_X11_answer, F_X11_refuse, F_X12_tells, F_X12_refused, if_true, if_false]
        · rw [show F_X12_isBuyer s1 (zI b) = some (zI 1) from (m_isB hb.2.2.1 l2 hb.1 ⟨hz1, hz2⟩).trans (congrArg some (if_pos (by omega))), Option.bind_some, if_neg (show ¬ zI 1 = 0 by decide), m_buyer hm h4 hbb hb.1 (hv b hbb), F_X12_buyer_33, hm.2, if_pos (Int32.le_refl _), F_X12_buyer_78]
          simp (disch := omega) only [m_in, bM1 hm h4 hbb hb.1 (hv b hbb), F_X12_buyer_78, ↓reduceIte, and_self, true_and, and_true, false_and, and_false, Int.reduceEq, Int.reduceLT, Int.reduceLE, sw, Option.bind_some, zl0, zl1, zl2, zl3, zl4, zl5, zl6, zl7, zl8, zl9, zl10, zl20, zl21, zl28, zl33, zl34, zI_neg, zI_add, zI_sub, zI_mul, zI_lt, zI_le, zI_eq, zI_ib, zI_ix, if_pos, if_neg, F_X11_answer, F_X11_refuse, F_X12_tells, F_X12_refused, if_true, if_false]
      · refine q_fin h (w := zI 0) (by decide) (v := zI (uns un n b)) ?_ ?_
        · rw [show F_X11_noBuyer σC (zI b) = some (zI 0) from (c_noB l1 l3 T.1 hb.2.1 hb.1 ⟨hz1, hz2⟩).trans (congrArg some (if_pos (by omega))), Option.bind_some, if_pos (show zI 0 = 0 by decide)]
          simp (disch := omega) only [l3, T.1, t_units T.1 ht.1.1 h4 hbb hb.1 (hu b hbb), ↓reduceIte, and_self, true_and, and_true, false_and, and_false, Int.reduceEq, Int.reduceLT, Int.reduceLE, sw, Option.bind_some, zl0, zl1, zl2, zl3, zl4, zl5, zl6, zl7, zl8, zl9, zl10, zl20, zl21, zl28, zl33, zl34, zI_neg, zI_add, zI_sub, zI_mul, zI_lt, zI_le, zI_eq, zI_ib, zI_ix, if_pos, if_neg, F_X11_answer, F_X11_refuse, F_X12_tells, F_X12_refused, if_true, if_false]
        · rw [show F_X12_isBuyer s1 (zI b) = some (zI 1) from (m_isB hb.2.2.1 l2 hb.1 ⟨hz1, hz2⟩).trans (congrArg some (if_pos (by omega))), Option.bind_some, if_neg (show ¬ zI 1 = 0 by decide), m_buyer hm h4 hbb hb.1 (hv b hbb), F_X12_buyer_33, hm.2, if_pos (Int32.le_refl _), F_X12_buyer_78]
          simp (disch := omega) only [m_in, F_X12_buyer_78, ↓reduceIte, and_self, true_and, and_true, false_and, and_false, Int.reduceEq, Int.reduceLT, Int.reduceLE, sw, Option.bind_some, zl0, zl1, zl2, zl3, zl4, zl5, zl6, zl7, zl8, zl9, zl10, zl20, zl21, zl28, zl33, zl34, zI_neg, zI_add, zI_sub, zI_mul, zI_lt, zI_le, zI_eq, zI_ib, zI_ix, if_pos, if_neg, F_X11_answer, F_X11_refuse, F_X12_tells, F_X12_refused, if_true, if_false]
      · refine q_fin h (w := zI 1) (by decide) (v := zI (-1)) ?_ ?_
        · rw [show F_X11_noBuyer σC (zI b) = some (zI 0) from (c_noB l1 l3 T.1 hb.2.1 hb.1 ⟨hz1, hz2⟩).trans (congrArg some (if_pos (by omega))), Option.bind_some, if_pos (show zI 0 = 0 by decide)]
          simp (disch := omega) only [↓reduceIte, and_self, true_and, and_true, false_and, and_false, Int.reduceEq, Int.reduceLT, Int.reduceLE, sw, Option.bind_some, zl0, zl1, zl2, zl3, zl4, zl5, zl6, zl7, zl8, zl9, zl10, zl20, zl21, zl28, zl33, zl34, zI_neg, zI_add, zI_sub, zI_mul, zI_lt, zI_le, zI_eq, zI_ib, zI_ix, if_pos, if_neg, F_X11_answer, F_X11_refuse, F_X12_tells, F_X12_refused, if_true, if_false]
        · rw [show F_X12_isBuyer s1 (zI b) = some (zI 1) from (m_isB hb.2.2.1 l2 hb.1 ⟨hz1, hz2⟩).trans (congrArg some (if_pos (by omega))), Option.bind_some, if_neg (show ¬ zI 1 = 0 by decide)]
          simp (disch := omega) only [m_in, ↓reduceIte, and_self, true_and, and_true, false_and, and_false, Int.reduceEq, Int.reduceLT, Int.reduceLE, sw, Option.bind_some, zl0, zl1, zl2, zl3, zl4, zl5, zl6, zl7, zl8, zl9, zl10, zl20, zl21, zl28, zl33, zl34, zI_neg, zI_add, zI_sub, zI_mul, zI_lt, zI_le, zI_eq, zI_ib, zI_ix, if_pos, if_neg, F_X11_answer, F_X11_refuse, F_X12_tells, F_X12_refused, if_true, if_false]
theorem sp_units : Sp_units Inv := by
  intro σC σM i j h
  have h := Inv_0 h
  obtain ⟨z, hz1, hz2, rfl⟩ := zI_of i
  obtain ⟨w, hw1, hw2, rfl⟩ := zI_of j
  unfold F_X11_units F_X12_units F_X12_units_38 F_X11_units_16
  rw [sw]
  generalize si σM 0 0 0 = s1 at h ⊢
  rcases h.2.2.2 with ⟨u1, u2⟩ | ⟨n, nb, t, hd, ac, μ, un, ⟨⟨l1, l2, l3, l4⟩, ⟨g, g8, g9⟩, hm, ⟨hy, hyn⟩, ht, hb, hn, hk, hp, hi⟩, ca⟩
  · refine q_fin h (w := zI 1) (by decide) (v := zI (-1)) ?_ ?_
    · rw [c_noB0 u1, Option.bind_some, if_neg (show ¬ zI 1 = 0 by decide)]
      simp (disch := omega) only [↓reduceIte, and_self, true_and, and_true, false_and, and_false, Int.reduceEq, Int.reduceLT, Int.reduceLE, sw, Option.bind_some, zl0, zl1, zl2, zl3, zl4, zl5, zl6, zl7, zl8, zl9, zl10, zl20, zl21, zl28, zl33, zl34, zI_neg, zI_add, zI_sub, zI_mul, zI_lt, zI_le, zI_eq, zI_ib, zI_ix, if_pos, if_neg, F_X11_answer, F_X11_refuse, F_X12_tells, F_X12_refused, if_true, if_false]
    · rw [m_isB0 u2, Option.bind_some, if_pos (show zI 0 = 0 by decide)]
      simp (disch := omega) only [↓reduceIte, and_self, true_and, and_true, false_and, and_false, Int.reduceEq, Int.reduceLT, Int.reduceLE, sw, Option.bind_some, zl0, zl1, zl2, zl3, zl4, zl5, zl6, zl7, zl8, zl9, zl10, zl20, zl21, zl28, zl33, zl34, zI_neg, zI_add, zI_sub, zI_mul, zI_lt, zI_le, zI_eq, zI_ib, zI_ix, if_pos, if_neg, F_X11_answer, F_X11_refuse, F_X12_tells, F_X12_refused, if_true, if_false]
  · have T := tC_t l4
    have h4 := g.1.2.1
    have hu : ∀ b, b < nb → ∀ s, s < n → σC.1 (t + 3) (4 * b + s) = zI (un b s) := fun b hb1 s hs => (hb.2.2.2 b hb1 s hs).1
    have hv : ∀ b, b < nb → ∀ s, s < n → s1.1 10 (4 * b + s) = zI (un b s) := fun b hb1 s hs => (hb.2.2.2 b hb1 s hs).2.1
    have hB : BY nb n un := ⟨h4, hb.1, fun b hb1 s hs => (hb.2.2.2 b hb1 s hs).2.2⟩
    have h4b := hb.1
    rcases (show ¬ (0 ≤ z ∧ z < nb) ∨ ∃ b : Nat, z = b ∧ b < nb from if q : 0 ≤ z ∧ z < nb then Or.inr ⟨z.toNat, by omega, by omega⟩ else Or.inl q) with q | ⟨b, rfl, hbb⟩
    · refine q_fin h (w := zI 1) (by decide) (v := zI (-1)) ?_ ?_
      · rw [show F_X11_noBuyer σC (zI z) = some (zI 1) from (c_noB l1 l3 T.1 hb.2.1 hb.1 ⟨hz1, hz2⟩).trans (congrArg some (if_neg q)), Option.bind_some, if_neg (show ¬ zI 1 = 0 by decide)]
        simp (disch := omega) only [↓reduceIte, and_self, true_and, and_true, false_and, and_false, Int.reduceEq, Int.reduceLT, Int.reduceLE, sw, Option.bind_some, zl0, zl1, zl2, zl3, zl4, zl5, zl6, zl7, zl8, zl9, zl10, zl20, zl21, zl28, zl33, zl34, zI_neg, zI_add, zI_sub, zI_mul, zI_lt, zI_le, zI_eq, zI_ib, zI_ix, if_pos, if_neg, F_X11_answer, F_X11_refuse, F_X12_tells, F_X12_refused, if_true, if_false]
      · rw [show F_X12_isBuyer s1 (zI z) = some (zI 0) from (m_isB hb.2.2.1 l2 hb.1 ⟨hz1, hz2⟩).trans (congrArg some (if_neg q)), Option.bind_some, if_pos (show zI 0 = 0 by decide)]
        simp (disch := omega) only [↓reduceIte, and_self, true_and, and_true, false_and, and_false, Int.reduceEq, Int.reduceLT, Int.reduceLE, sw, Option.bind_some, zl0, zl1, zl2, zl3, zl4, zl5, zl6, zl7, zl8, zl9, zl10, zl20, zl21, zl28, zl33, zl34, zI_neg, zI_add, zI_sub, zI_mul, zI_lt, zI_le, zI_eq, zI_ib, zI_ix, if_pos, if_neg, F_X11_answer, F_X11_refuse, F_X12_tells, F_X12_refused, if_true, if_false]
    · rcases (show ¬ (0 ≤ w ∧ w < n) ∨ ∃ s : Nat, w = s ∧ s < n from if q : 0 ≤ w ∧ w < n then Or.inr ⟨w.toNat, by omega, by omega⟩ else Or.inl q) with q | ⟨s, rfl, hs⟩
      · refine q_fin h (w := zI 1) (by decide) (v := zI (-1)) ?_ ?_
        · rw [show F_X11_noBuyer σC (zI b) = some (zI 0) from (c_noB l1 l3 T.1 hb.2.1 hb.1 ⟨hz1, hz2⟩).trans (congrArg some (if_pos (by omega))), Option.bind_some, if_pos (show zI 0 = 0 by decide), show F_X11_noService σC (zI w) = some (zI 1) from (c_noS l1 l3 T.1 ht.1.1 h4 ⟨hw1, hw2⟩).trans (congrArg some (if_neg q)), Option.bind_some, if_neg (show ¬ zI 1 = 0 by decide)]
          simp (disch := omega) only [↓reduceIte, and_self, true_and, and_true, false_and, and_false, Int.reduceEq, Int.reduceLT, Int.reduceLE, sw, Option.bind_some, zl0, zl1, zl2, zl3, zl4, zl5, zl6, zl7, zl8, zl9, zl10, zl20, zl21, zl28, zl33, zl34, zI_neg, zI_add, zI_sub, zI_mul, zI_lt, zI_le, zI_eq, zI_ib, zI_ix, if_pos, if_neg, F_X11_answer, F_X11_refuse, F_X12_tells, F_X12_refused, if_true, if_false]
        · rw [show F_X12_isBuyer s1 (zI b) = some (zI 1) from (m_isB hb.2.2.1 l2 hb.1 ⟨hz1, hz2⟩).trans (congrArg some (if_pos (by omega))), Option.bind_some, if_neg (show ¬ zI 1 = 0 by decide), show F_X12_isService s1 (zI w) = some (zI 0) from (m_isS hm l2 h4 ⟨hw1, hw2⟩).trans (congrArg some (if_neg q)), Option.bind_some, if_pos (show zI 0 = 0 by decide)]
          simp (disch := omega) only [↓reduceIte, and_self, true_and, and_true, false_and, and_false, Int.reduceEq, Int.reduceLT, Int.reduceLE, sw, Option.bind_some, zl0, zl1, zl2, zl3, zl4, zl5, zl6, zl7, zl8, zl9, zl10, zl20, zl21, zl28, zl33, zl34, zI_neg, zI_add, zI_sub, zI_mul, zI_lt, zI_le, zI_eq, zI_ib, zI_ix, if_pos, if_neg, F_X11_answer, F_X11_refuse, F_X12_tells, F_X12_refused, if_true, if_false]
      · refine q_fin h (w := zI 0) (by decide) (v := zI (un b s)) ?_ ?_
        · rw [show F_X11_noBuyer σC (zI b) = some (zI 0) from (c_noB l1 l3 T.1 hb.2.1 hb.1 ⟨hz1, hz2⟩).trans (congrArg some (if_pos (by omega))), Option.bind_some, if_pos (show zI 0 = 0 by decide), show F_X11_noService σC (zI s) = some (zI 0) from (c_noS l1 l3 T.1 ht.1.1 h4 ⟨hw1, hw2⟩).trans (congrArg some (if_pos (by omega))), Option.bind_some, if_pos (show zI 0 = 0 by decide), l3, Option.bind_some, if_pos T.1, zl4]
          simp (disch := omega) only [zI_mul, zI_add, zI_ib, zI_ix]
          rw [if_pos (by omega), show ((b : Int) * 4 + s).toNat = 4 * b + s by omega, hu b hbb s hs]
          rfl
        · rw [show F_X12_isBuyer s1 (zI b) = some (zI 1) from (m_isB hb.2.2.1 l2 hb.1 ⟨hz1, hz2⟩).trans (congrArg some (if_pos (by omega))), Option.bind_some, if_neg (show ¬ zI 1 = 0 by decide), show F_X12_isService s1 (zI s) = some (zI 1) from (m_isS hm l2 h4 ⟨hw1, hw2⟩).trans (congrArg some (if_pos (by omega))), Option.bind_some, if_neg (show ¬ zI 1 = 0 by decide), zl4]
          simp (disch := omega) only [zI_mul, zI_add, zI_ib, zI_ix]
          rw [if_pos (by omega), show (4 * (b : Int) + s).toNat = 4 * b + s by omega, hv b hbb s hs]
          rfl
def hu1 (μ : Nat → Int) (un : Nat → Nat → Int) (n : Nat) : Nat → Int32
  | 0 => 0
  | b + 1 => if bu μ un n b 1 ≤ bu μ un n b 0 then hu1 μ un n b else hu1 μ un n b ||| (1 <<< (zI b &&& 31))
def ha1 (μ : Nat → Int) (un : Nat → Nat → Int) (n : Nat) : Nat → Int × Int
  | 0 => (-2, 0)
  | b + 1 => if (ha1 μ un n b).1 = -2 then (b, bu μ un n b 1 - bu μ un n b 0) else if bu μ un n b 1 - bu μ un n b 0 ≤ (ha1 μ un n b).2 then ha1 μ un n b else (b, bu μ un n b 1 - bu μ un n b 0)
theorem ha1_bd {μ : Nat → Int} {un : Nat → Nat → Int} {n nb c : Nat} (g : Gd μ n c) (hB : BY nb n un) : ∀ b, b ≤ nb → ((ha1 μ un n b).1 = -2 ∨ (0 ≤ (ha1 μ un n b).1 ∧ (ha1 μ un n b).1 < b)) ∧ -7920 ≤ (ha1 μ un n b).2 ∧ (ha1 μ un n b).2 ≤ 7920
  | 0, _ => ⟨Or.inl rfl, by simp [ha1], by simp [ha1]⟩
  | b + 1, hb => by
    have i := ha1_bd g hB b (by omega)
    have e1 := bu_bd g hB (b := b) (by omega) (w := 1) (by omega)
    have e0 := bu_bd g hB (b := b) (by omega) (w := 0) (by omega)
    unfold ha1
    split
    · constructor
      · exact Or.inr ⟨by simp, by simp; omega⟩
      · simp only
        omega
    · split
      · omega
      · constructor
        · exact Or.inr ⟨by simp, by simp; omega⟩
        · simp only
          omega
theorem c_more {σ : Sto} {t n nb b : Nat} {un : Nat → Nat → Int} {μ : Nat → Int} (l3 : σ.2.2 0 11 = some t) (T : tC t) (hn : σ.1 t 0 = zI n) (h4 : n ≤ 4) (hb : b < nb) (hnb : nb ≤ 4) (hu : ∀ s, s < n → σ.1 (t + 3) (4 * b + s) = zI (un b s)) (hy : YR σ 3 μ n) : F_X11_burdenMore σ (zI b) = some (zI (bu μ un n b 1 - bu μ un n b 0)) := by
  unfold F_X11_burdenMore
  rw [l3, Option.bind_some, if_pos T.1, bU1 T hn h4 hb hnb hu hy, Option.bind_some, Option.bind_some, if_pos T.1, bU0 T hn h4 hb hnb hu hy, Option.bind_some, zI_sub]
theorem sp_hurt : Sp_hurt Inv := by
  intro σC σM h
  have h := Inv_0 h
  unfold F_X11_hurt F_X12_hurt
  rw [sw]
  generalize si σM 0 0 0 = s1 at h ⊢
  rcases h.2.2.2 with ⟨u1, u2⟩ | ⟨n, nb, t, hd, ac, μ, un, ⟨⟨l1, l2, l3, l4⟩, ⟨g, g8, g9⟩, hm, ⟨hy, hyn⟩, ht, hb, hn, hk, hp, hi⟩, ca⟩
  · refine q_fin h (w := zI 1) (by decide) (v := zI (-1)) ?_ ?_
    · rw [if_pos u1]
      simp (disch := omega) only [↓reduceIte, and_self, true_and, and_true, false_and, and_false, Int.reduceEq, Int.reduceLT, Int.reduceLE, sw, Option.bind_some, zl0, zl1, zl2, zl3, zl4, zl5, zl6, zl7, zl8, zl9, zl10, zl20, zl21, zl28, zl33, zl34, zI_neg, zI_add, zI_sub, zI_mul, zI_lt, zI_le, zI_eq, zI_ib, zI_ix, if_pos, if_neg, F_X11_answer, F_X11_refuse, F_X12_tells, F_X12_refused, if_true, if_false]
    · rw [if_pos u2]
      simp (disch := omega) only [↓reduceIte, and_self, true_and, and_true, false_and, and_false, Int.reduceEq, Int.reduceLT, Int.reduceLE, sw, Option.bind_some, zl0, zl1, zl2, zl3, zl4, zl5, zl6, zl7, zl8, zl9, zl10, zl20, zl21, zl28, zl33, zl34, zI_neg, zI_add, zI_sub, zI_mul, zI_lt, zI_le, zI_eq, zI_ib, zI_ix, if_pos, if_neg, F_X11_answer, F_X11_refuse, F_X12_tells, F_X12_refused, if_true, if_false]
  · have T := tC_t l4
    have h4 := g.1.2.1
    have hu : ∀ b, b < nb → ∀ s, s < n → σC.1 (t + 3) (4 * b + s) = zI (un b s) := fun b hb1 s hs => (hb.2.2.2 b hb1 s hs).1
    have hv : ∀ b, b < nb → ∀ s, s < n → s1.1 10 (4 * b + s) = zI (un b s) := fun b hb1 s hs => (hb.2.2.2 b hb1 s hs).2.1
    have hB : BY nb n un := ⟨h4, hb.1, fun b hb1 s hs => (hb.2.2.2 b hb1 s hs).2.2⟩
    have h4b := hb.1
    rw [if_neg (show ¬ σC.1 0 13 = 0 by rw [l1]; decide), if_neg (show ¬ s1.1 0 25 = 0 by rw [l2]; decide)]
    have kc : ∀ (d k b : Nat), b + d = nb → d < k → F_X11_hurt_17 k σC (hu1 μ un n b) (zI b) = some (hu1 μ un n nb, si σC 0 18 (zI 0)) := by
      intro d
      induction d with
      | zero =>
        intro k b hd hk
        obtain ⟨k, rfl⟩ : ∃ j, k = j + 1 := ⟨k - 1, by omega⟩
        obtain rfl : b = nb := by omega
        rw [F_X11_hurt_17, l3, Option.bind_some, if_pos T.1, hb.2.1, if_pos (Int32.le_refl _)]
        rfl
      | succ d ih =>
        intro k b hd hk
        obtain ⟨k, rfl⟩ : ∃ j, k = j + 1 := ⟨k - 1, by omega⟩
        have e1 := bu_bd g hB (b := b) (by omega) (w := 1) (by omega)
        have e0 := bu_bd g hB (b := b) (by omega) (w := 0) (by omega)
        have e := ih k (b + 1) (by omega) (by omega)
        rw [hu1] at e
        rw [F_X11_hurt_17, l3, Option.bind_some, if_pos T.1, hb.2.1, if_neg (show ¬ zI nb ≤ zI b from by rw [zI_le (by omega) (by omega) (by omega) (by omega)]; omega), c_more l3 T ht.1.1 h4 (show b < nb by omega) hb.1 (hu b (by omega)) hy, Option.bind_some, show (zI b + 1 : Int32) = zI ((b + 1 : Nat) : Int) from by rw [zl1, zI_add]; rfl]
        have q3 : (zI (bu μ un n b 1 - bu μ un n b 0) ≤ 0) = (bu μ un n b 1 ≤ bu μ un n b 0) := by
          rw [zl0, zI_le (by omega) (by omega) (by omega) (by omega)]
          exact propext ⟨by omega, by omega⟩
        by_cases q : bu μ un n b 1 ≤ bu μ un n b 0
        · rw [if_pos q] at e
          rw [if_pos (by rw [q3]; exact q), e]
        · rw [if_neg q] at e
          rw [if_neg (by rw [q3]; exact q), e]
    have km : ∀ (d k b : Nat), b + d = nb → d < k → F_X12_hurt_22 k s1 (hu1 μ un n b) (zI b) = some (hu1 μ un n nb, si (si s1 0 1 (zI 0)) 0 2 (-1)) := by
      intro d
      induction d with
      | zero =>
        intro k b hd hk
        obtain ⟨k, rfl⟩ : ∃ j, k = j + 1 := ⟨k - 1, by omega⟩
        obtain rfl : b = nb := by omega
        rw [F_X12_hurt_22, hb.2.2.1, if_pos (Int32.le_refl _)]
        rfl
      | succ d ih =>
        intro k b hd hk
        obtain ⟨k, rfl⟩ : ∃ j, k = j + 1 := ⟨k - 1, by omega⟩
        have e1 := bu_bd g hB (b := b) (by omega) (w := 1) (by omega)
        have e0 := bu_bd g hB (b := b) (by omega) (w := 0) (by omega)
        have e := ih k (b + 1) (by omega) (by omega)
        rw [hu1] at e
        have f1 : F_X12_burden s1 (zI b) 1 = _ := bM1 hm h4 (show b < nb by omega) hb.1 (hv b (by omega))
        have f0 : F_X12_burden s1 (zI b) 0 = _ := bM0 hm h4 (show b < nb by omega) hb.1 (hv b (by omega))
        rw [F_X12_hurt_22, hb.2.2.1, if_neg (show ¬ zI nb ≤ zI b from by rw [zI_le (by omega) (by omega) (by omega) (by omega)]; omega), f1, Option.bind_some, f0, Option.bind_some, show (zI b + 1 : Int32) = zI ((b + 1 : Nat) : Int) from by rw [zl1, zI_add]; rfl]
        have q3 : (zI (bu μ un n b 1) ≤ zI (bu μ un n b 0)) = (bu μ un n b 1 ≤ bu μ un n b 0) := zI_le (by omega) (by omega) (by omega) (by omega)
        by_cases q : bu μ un n b 1 ≤ bu μ un n b 0
        · rw [if_pos q] at e
          rw [if_pos (by rw [q3]; exact q), Int32.or_zero, e]
        · rw [if_neg q] at e
          rw [if_neg (by rw [q3]; exact q), e]
    exact q_fin h (w := zI 0) (by decide) (kc nb FU 0 (by omega) (FU_lt (by omega))) (km nb FU 0 (by omega) (FU_lt (by omega)))
theorem sp_hardest : Sp_hardest Inv := by
  intro σC σM h
  have h := Inv_0 h
  unfold F_X11_hardest F_X12_hardest
  rw [sw]
  generalize si σM 0 0 0 = s1 at h ⊢
  rcases h.2.2.2 with ⟨u1, u2⟩ | ⟨n, nb, t, hd, ac, μ, un, ⟨⟨l1, l2, l3, l4⟩, ⟨g, g8, g9⟩, hm, ⟨hy, hyn⟩, ht, hb, hn, hk, hp, hi⟩, ca⟩
  · refine q_fin h (w := zI 1) (by decide) (v := zI (-1)) ?_ ?_
    · rw [if_pos u1]
      simp (disch := omega) only [↓reduceIte, and_self, true_and, and_true, false_and, and_false, Int.reduceEq, Int.reduceLT, Int.reduceLE, sw, Option.bind_some, zl0, zl1, zl2, zl3, zl4, zl5, zl6, zl7, zl8, zl9, zl10, zl20, zl21, zl28, zl33, zl34, zI_neg, zI_add, zI_sub, zI_mul, zI_lt, zI_le, zI_eq, zI_ib, zI_ix, if_pos, if_neg, F_X11_answer, F_X11_refuse, F_X12_tells, F_X12_refused, if_true, if_false]
    · rw [if_pos u2]
      simp (disch := omega) only [↓reduceIte, and_self, true_and, and_true, false_and, and_false, Int.reduceEq, Int.reduceLT, Int.reduceLE, sw, Option.bind_some, zl0, zl1, zl2, zl3, zl4, zl5, zl6, zl7, zl8, zl9, zl10, zl20, zl21, zl28, zl33, zl34, zI_neg, zI_add, zI_sub, zI_mul, zI_lt, zI_le, zI_eq, zI_ib, zI_ix, if_pos, if_neg, F_X11_answer, F_X11_refuse, F_X12_tells, F_X12_refused, if_true, if_false]
  · have T := tC_t l4
    have h4 := g.1.2.1
    have hu : ∀ b, b < nb → ∀ s, s < n → σC.1 (t + 3) (4 * b + s) = zI (un b s) := fun b hb1 s hs => (hb.2.2.2 b hb1 s hs).1
    have hv : ∀ b, b < nb → ∀ s, s < n → s1.1 10 (4 * b + s) = zI (un b s) := fun b hb1 s hs => (hb.2.2.2 b hb1 s hs).2.1
    have hB : BY nb n un := ⟨h4, hb.1, fun b hb1 s hs => (hb.2.2.2 b hb1 s hs).2.2⟩
    have h4b := hb.1
    rw [if_neg (show ¬ σC.1 0 13 = 0 by rw [l1]; decide), if_neg (show ¬ s1.1 0 25 = 0 by rw [l2]; decide)]
    have kc : ∀ (d k b : Nat), b + d = nb → d < k → F_X11_hardest_20 k σC (zI (ha1 μ un n b).1) (zI (ha1 μ un n b).2) (zI b) = some (zI (ha1 μ un n nb).1, si σC 0 18 (zI 0)) := by
      intro d
      induction d with
      | zero =>
        intro k b hd hk
        obtain ⟨k, rfl⟩ : ∃ j, k = j + 1 := ⟨k - 1, by omega⟩
        obtain rfl : b = nb := by omega
        rw [F_X11_hardest_20, l3, Option.bind_some, if_pos T.1, hb.2.1, if_pos (Int32.le_refl _)]
        rfl
      | succ d ih =>
        intro k b hd hk
        obtain ⟨k, rfl⟩ : ∃ j, k = j + 1 := ⟨k - 1, by omega⟩
        have e1 := bu_bd g hB (b := b) (by omega) (w := 1) (by omega)
        have e0 := bu_bd g hB (b := b) (by omega) (w := 0) (by omega)
        have hh := ha1_bd g hB b (by omega)
        have e := ih k (b + 1) (by omega) (by omega)
        rw [ha1] at e
        rw [F_X11_hardest_20, l3, Option.bind_some, if_pos T.1, hb.2.1, if_neg (show ¬ zI nb ≤ zI b from by rw [zI_le (by omega) (by omega) (by omega) (by omega)]; omega), c_more l3 T ht.1.1 h4 (show b < nb by omega) hb.1 (hu b (by omega)) hy, Option.bind_some, show (zI b + 1 : Int32) = zI ((b + 1 : Nat) : Int) from by rw [zl1, zI_add]; rfl, zl0]
        simp (disch := omega) only [zI_lt, zI_le]
        by_cases q : (ha1 μ un n b).1 = -2
        · rw [if_pos q] at e
          rw [if_pos (by omega), e]
        · rw [if_neg q] at e
          rw [if_neg (by omega)]
          by_cases q2 : bu μ un n b 1 - bu μ un n b 0 ≤ (ha1 μ un n b).2
          · rw [if_pos q2] at e
            rw [if_pos q2, e]
          · rw [if_neg q2] at e
            rw [if_neg q2, e]
    have km : ∀ (d k b : Nat), b + d = nb → d < k → F_X12_hardest_25 k s1 (zI (ha1 μ un n b).1) (zI (ha1 μ un n b).2) (zI b) = some (zI (ha1 μ un n nb).1, si (si s1 0 1 (zI 0)) 0 2 (-1)) := by
      intro d
      induction d with
      | zero =>
        intro k b hd hk
        obtain ⟨k, rfl⟩ : ∃ j, k = j + 1 := ⟨k - 1, by omega⟩
        obtain rfl : b = nb := by omega
        rw [F_X12_hardest_25, hb.2.2.1, if_pos (Int32.le_refl _)]
        rfl
      | succ d ih =>
        intro k b hd hk
        obtain ⟨k, rfl⟩ : ∃ j, k = j + 1 := ⟨k - 1, by omega⟩
        have e1 := bu_bd g hB (b := b) (by omega) (w := 1) (by omega)
        have e0 := bu_bd g hB (b := b) (by omega) (w := 0) (by omega)
        have hh := ha1_bd g hB b (by omega)
        have e := ih k (b + 1) (by omega) (by omega)
        rw [ha1] at e
        have f1 : F_X12_burden s1 (zI b) 1 = _ := bM1 hm h4 (show b < nb by omega) hb.1 (hv b (by omega))
        have f0 : F_X12_burden s1 (zI b) 0 = _ := bM0 hm h4 (show b < nb by omega) hb.1 (hv b (by omega))
        rw [F_X12_hardest_25, hb.2.2.1, if_neg (show ¬ zI nb ≤ zI b from by rw [zI_le (by omega) (by omega) (by omega) (by omega)]; omega), f1, Option.bind_some, f0, Option.bind_some, show (zI b + 1 : Int32) = zI ((b + 1 : Nat) : Int) from by rw [zl1, zI_add]; rfl, show (-2 : Int32) = zI (-2) from by decide, zI_sub]
        simp (disch := omega) only [zI_lt, zI_eq]
        by_cases q : (ha1 μ un n b).1 = -2
        · rw [if_pos q] at e
          rw [if_pos q, e]
        · rw [if_neg q] at e
          rw [if_neg q]
          by_cases q2 : bu μ un n b 1 - bu μ un n b 0 ≤ (ha1 μ un n b).2
          · rw [if_pos q2] at e
            rw [if_neg (by omega), e]
          · rw [if_neg q2] at e
            rw [if_pos (by omega), e]
    exact q_fin h (w := zI 0) (by decide) (kc nb FU 0 (by omega) (FU_lt (by omega))) (km nb FU 0 (by omega) (FU_lt (by omega)))
