/-! MORE CALLS THAT ONLY LOOK -/
theorem zlm2 : (-2 : Int32) = zI (-2) := by decide
theorem m_keptBy {σ : Sto} {μ : Nat → Int} {n c : Nat} (h : MS σ μ n) (g : Gd μ n c) {s : Nat} (hs : s < n) {p : Int} (hp : 0 ≤ p ∧ p ≤ 20) : F_X12_isKeptBy σ (zI s) (zI p) = some (if spw μ n s p ≤ al μ n then zI 1 else zI 0) := by
  have h4 := g.1.2.1
  have a := spw_bd g hs hp
  have b := al_bd0 g
  unfold F_X12_isKeptBy
  rw [m_spent h g, m_of1 h (by omega), m_weight h g hs, m_allowed h g]
  simp only [Option.bind_some, zI_sub, zI_mul, zI_add]
  have e : sp μ n + (p - μ (7 * s + 1)) * we μ s = spw μ n s p := rfl
  rw [e]
  simp (disch := omega) only [zI_lt, zl0, zl1]
  by_cases q : spw μ n s p ≤ al μ n
  · rw [if_pos q, if_neg (by omega)]
  · rw [if_neg q, if_pos (by omega)]
/-- the highest price that keeps the cap, from d - 1 down -/
def mo (μ : Nat → Int) (n s : Nat) : Nat → Int
  | 0 => -2
  | d + 1 => if spw μ n s d ≤ al μ n then d else mo μ n s d
theorem c_most {σ : Sto} {μ : Nat → Int} {n c t : Nat} (l3 : σ.2.2 0 11 = some t) (T : tC t) (hy : YR σ 3 μ n) (ht : TR σ t μ n) (g : Gd μ n c) {s : Nat} (hs : s < n) : ∀ (d k : Nat), d ≤ 21 → d < k → F_X11_most_29 k σ (zI s) (zI (al μ n)) (zI ((d : Int) - 1)) = some (zI (mo μ n s d), si σ 0 18 (zI 0)) := by
  have b := al_bd0 g
  intro d
  induction d with
  | zero =>
    intro k _ hk
    obtain ⟨k, rfl⟩ : ∃ j, k = j + 1 := ⟨k - 1, by omega⟩
    rw [F_X11_most_29, if_pos (by decide)]
    rfl
  | succ d ih =>
    intro k hd hk
    obtain ⟨k, rfl⟩ : ∃ j, k = j + 1 := ⟨k - 1, by omega⟩
    rw [F_X11_most_29, show ((d + 1 : Nat) : Int) - 1 = (d : Int) by omega, l3, Option.bind_some, y_spentWith yC_3 T hy ht g hs, Option.bind_some, zl1, zI_neg, zI_add]
    have a := spw_bd g hs (p := d) (by omega)
    have e := ih k (by omega) (by omega)
    rw [Int.sub_eq_add_neg] at e
    rw [e, zl0]
    simp (disch := omega) only [zI_lt]
    rw [if_neg (by omega), mo]
    by_cases q : spw μ n s d ≤ al μ n
    · rw [if_neg (by omega), if_pos q]; rfl
    · rw [if_pos (by omega), if_neg q]
theorem m_most {σ : Sto} {μ : Nat → Int} {n c : Nat} (h : MS σ μ n) (g : Gd μ n c) {s : Nat} (hs : s < n) : ∀ (d k : Nat), d ≤ 21 → d < k → F_X12_most_22 k σ (zI s) (zI ((d : Int) - 1)) = some (zI (mo μ n s d), si (si σ 0 1 (zI 0)) 0 2 (-1)) := by
  intro d
  induction d with
  | zero =>
    intro k _ hk
    obtain ⟨k, rfl⟩ : ∃ j, k = j + 1 := ⟨k - 1, by omega⟩
    rw [F_X12_most_22, if_pos (by decide), F_X12_most_41, if_neg (by decide)]
    rfl
  | succ d ih =>
    intro k hd hk
    obtain ⟨k, rfl⟩ : ∃ j, k = j + 1 := ⟨k - 1, by omega⟩
    rw [F_X12_most_22, show ((d + 1 : Nat) : Int) - 1 = (d : Int) by omega, m_keptBy h g hs (by omega), Option.bind_some, zl1, zI_neg, zI_add]
    have e := ih k (by omega) (by omega)
    rw [Int.sub_eq_add_neg] at e
    rw [e, zl0, F_X12_most_41, zl0]
    simp (disch := omega) only [zI_lt, zI_le]
    rw [if_neg (by omega), if_pos (show (0 : Int) ≤ d by omega), mo]
    by_cases q : spw μ n s d ≤ al μ n
    · rw [if_pos q, if_pos q, if_neg (by decide)]; rfl
    · rw [if_neg q, if_neg q, if_pos rfl]; rfl
theorem sp_most : Sp_most Inv := by
  intro σC σM i h
  have h := Inv_0 h
  obtain ⟨z, hz1, hz2, rfl⟩ := zI_of i
  unfold F_X11_most F_X12_most
  rw [sw]
  generalize si σM 0 0 0 = s1 at h ⊢
  rcases h.2.2.2 with ⟨u1, u2⟩ | ⟨n, nb, t, hd, ac, μ, un, ⟨⟨l1, l2, l3, l4⟩, ⟨g, g8, g9⟩, hm, ⟨hy, hyn⟩, ht, hb, hn, hk, hp, hi⟩, ca⟩
  · refine q_fin h (w := zI 1) (by decide) (v := zI (-1)) ?_ ?_
    · rw [c_noS0 u1, Option.bind_some, if_neg (show ¬ zI 1 = 0 by decide)]
      simp (disch := omega) only [↓reduceIte, and_self, true_and, and_true, false_and, and_false, Int.reduceEq, Int.reduceLT, Int.reduceLE, sw, Option.bind_some, zl0, zl1, zl2, zl3, zl4, zl5, zl6, zl7, zl8, zl9, zl10, zl20, zl21, zl28, zl33, zl34, zI_neg, zI_add, zI_sub, zI_mul, zI_lt, zI_le, zI_eq, zI_ib, zI_ix, if_pos, if_neg, F_X11_answer, F_X11_refuse, F_X12_tells, F_X12_refused, if_true, if_false]
    · rw [m_isS0 u2, Option.bind_some, if_pos (show zI 0 = 0 by decide)]
      simp (disch := omega) only [↓reduceIte, and_self, true_and, and_true, false_and, and_false, Int.reduceEq, Int.reduceLT, Int.reduceLE, sw, Option.bind_some, zl0, zl1, zl2, zl3, zl4, zl5, zl6, zl7, zl8, zl9, zl10, zl20, zl21, zl28, zl33, zl34, zI_neg, zI_add, zI_sub, zI_mul, zI_lt, zI_le, zI_eq, zI_ib, zI_ix, if_pos, if_neg, F_X11_answer, F_X11_refuse, F_X12_tells, F_X12_refused, if_true, if_false]
  · have T := tC_t l4
    have h4 := g.1.2.1
    rcases (show ¬ (0 ≤ z ∧ z < n) ∨ ∃ s : Nat, z = s ∧ s < n from if q : 0 ≤ z ∧ z < n then Or.inr ⟨z.toNat, by omega, by omega⟩ else Or.inl q) with q | ⟨s, rfl, hs⟩
    · refine q_fin h (w := zI 1) (by decide) (v := zI (-1)) ?_ ?_
      · rw [show F_X11_noService σC (zI z) = some (zI 1) from (c_noS l1 l3 T.1 ht.1.1 h4 ⟨hz1, hz2⟩).trans (congrArg some (if_neg q)), Option.bind_some, if_neg (show ¬ zI 1 = 0 by decide)]
        simp (disch := omega) only [↓reduceIte, and_self, true_and, and_true, false_and, and_false, Int.reduceEq, Int.reduceLT, Int.reduceLE, sw, Option.bind_some, zl0, zl1, zl2, zl3, zl4, zl5, zl6, zl7, zl8, zl9, zl10, zl20, zl21, zl28, zl33, zl34, zI_neg, zI_add, zI_sub, zI_mul, zI_lt, zI_le, zI_eq, zI_ib, zI_ix, if_pos, if_neg, F_X11_answer, F_X11_refuse, F_X12_tells, F_X12_refused, if_true, if_false]
      · rw [show F_X12_isService s1 (zI z) = some (zI 0) from (m_isS hm l2 h4 ⟨hz1, hz2⟩).trans (congrArg some (if_neg q)), Option.bind_some, if_pos (show zI 0 = 0 by decide)]
        simp (disch := omega) only [↓reduceIte, and_self, true_and, and_true, false_and, and_false, Int.reduceEq, Int.reduceLT, Int.reduceLE, sw, Option.bind_some, zl0, zl1, zl2, zl3, zl4, zl5, zl6, zl7, zl8, zl9, zl10, zl20, zl21, zl28, zl33, zl34, zI_neg, zI_add, zI_sub, zI_mul, zI_lt, zI_le, zI_eq, zI_ib, zI_ix, if_pos, if_neg, F_X11_answer, F_X11_refuse, F_X12_tells, F_X12_refused, if_true, if_false]
    · refine q_fin h (w := zI 0) (by decide) (v := zI (mo μ n s 21)) ?_ ?_
      · rw [show F_X11_noService σC (zI s) = some (zI 0) from (c_noS l1 l3 T.1 ht.1.1 h4 ⟨hz1, hz2⟩).trans (congrArg some (if_pos (by omega))), Option.bind_some, if_pos (show zI 0 = 0 by decide), l3, Option.bind_some, y_allowed yC_3 T hy ht g, Option.bind_some]
        exact c_most l3 T hy ht g hs 21 FU (by omega) (FU_lt (by omega))
      · rw [show F_X12_isService s1 (zI s) = some (zI 1) from (m_isS hm l2 h4 ⟨hz1, hz2⟩).trans (congrArg some (if_pos (by omega))), Option.bind_some, if_neg (show ¬ zI 1 = 0 by decide)]
        exact m_most hm g hs 21 FU (by omega) (FU_lt (by omega))
/-- the price of the greatest profit, the lowest of them -/
def fr (μ : Nat → Int) (s : Nat) : Nat → Nat
  | 0 => 0
  | p + 1 => if pr μ s (p + 1 : Nat) ≤ pr μ s (fr μ s p) then fr μ s p else p + 1
theorem fr_le (μ : Nat → Int) (s : Nat) : ∀ p, fr μ s p ≤ p
  | 0 => Nat.le_refl _
  | p + 1 => by
    have := fr_le μ s p
    unfold fr
    split <;> omega
theorem c_free {σ : Sto} {μ : Nat → Int} {n t : Nat} (T : tC t) (ht : TR σ t μ n) (g : GdT μ n) (h4 : n ≤ 4) {s : Nat} (hs : s < n) : F_X9_freePrice σ t (zI s) = some (zI (fr μ s 20)) := by
  have key : ∀ (d k : Nat), d ≤ 20 → d < k → F_X9_freePrice_4 k σ t (zI s) (zI (fr μ s (20 - d))) (zI (21 - (d : Int))) = some (zI (fr μ s 20)) := by
    intro d
    induction d with
    | zero =>
      intro k _ hk
      obtain ⟨k, rfl⟩ : ∃ j, k = j + 1 := ⟨k - 1, by omega⟩
      rw [F_X9_freePrice_4, if_pos (by decide)]
    | succ d ih =>
      intro k hd hk
      obtain ⟨k, rfl⟩ : ∃ j, k = j + 1 := ⟨k - 1, by omega⟩
      have e := ih k (by omega) (by omega)
      have f := fr_le μ s (20 - (d + 1))
      have r1 := t_pr ht s hs (20 - d) (by omega)
      have r2 := t_pr ht s hs (fr μ s (20 - (d + 1))) (by omega)
      have b1 := pr_bd g hs (p := ((20 - d : Nat) : Int)) (by omega) (by omega)
      have b2 := pr_bd g hs (p := ((fr μ s (20 - (d + 1)) : Nat) : Int)) (by omega) (by omega)
      rw [F_X9_freePrice_4, show (21 - ((d + 1 : Nat) : Int)) = ((20 - d : Nat) : Int) by omega, zl21, zl20, zl1]
      simp (disch := omega) only [zI_lt, zI_mul, zI_add, zI_ib, zI_ix]
      rw [if_neg (by omega), if_pos T.1, if_pos (by omega), if_pos (by omega), show ((s : Int) * 21 + ((20 - d : Nat) : Int)).toNat = 21 * s + (20 - d) by omega, show ((s : Int) * 21 + ((fr μ s (20 - (d + 1)) : Nat) : Int)).toNat = 21 * s + fr μ s (20 - (d + 1)) by omega, r1, r2]
      simp (disch := omega) only [zI_le]
      have f2 : fr μ s (20 - d) = if pr μ s (20 - d : Nat) ≤ pr μ s (fr μ s (20 - (d + 1))) then fr μ s (20 - (d + 1)) else 20 - d := by
        rw [show 20 - d = (20 - (d + 1)) + 1 by omega, fr]
      rw [show (((20 - d : Nat) : Int) + 1) = 21 - (d : Int) by omega]
      split
      · rename_i q
        rw [if_pos q] at f2
        rw [← f2, e]
      · rename_i q
        rw [if_neg q] at f2
        rw [f2] at e
        exact e
  exact key 20 FU (by omega) (FU_lt (by omega))
theorem m_free {σ : Sto} {μ : Nat → Int} {n : Nat} (h : MS σ μ n) (g : GdT μ n) (h4 : n ≤ 4) {s : Nat} (hs : s < n) : F_X12_free_23 FU σ (zI s) 0 1 = some (zI (fr μ s 20), si (si σ 0 1 (zI 0)) 0 2 (-1)) := by
  have key : ∀ (d k : Nat), d ≤ 20 → d < k → F_X12_free_23 k σ (zI s) (zI (fr μ s (20 - d))) (zI (21 - (d : Int))) = some (zI (fr μ s 20), si (si σ 0 1 (zI 0)) 0 2 (-1)) := by
    intro d
    induction d with
    | zero =>
      intro k _ hk
      obtain ⟨k, rfl⟩ : ∃ j, k = j + 1 := ⟨k - 1, by omega⟩
      rw [F_X12_free_23, if_pos (by decide)]
      rfl
    | succ d ih =>
      intro k hd hk
      obtain ⟨k, rfl⟩ : ∃ j, k = j + 1 := ⟨k - 1, by omega⟩
      have e := ih k (by omega) (by omega)
      have f := fr_le μ s (20 - (d + 1))
      have b1 := pr_bd g hs (p := ((20 - d : Nat) : Int)) (by omega) (by omega)
      have b2 := pr_bd g hs (p := ((fr μ s (20 - (d + 1)) : Nat) : Int)) (by omega) (by omega)
      rw [F_X12_free_23, show (21 - ((d + 1 : Nat) : Int)) = ((20 - d : Nat) : Int) by omega, zl20, zl1, m_profit h g h4 hs (by omega) (by omega), m_profit h g h4 hs (by omega) (by omega)]
      simp (disch := omega) only [zI_lt, zI_add, Option.bind_some, zI_le]
      rw [if_neg (by omega)]
      have f2 : fr μ s (20 - d) = if pr μ s (20 - d : Nat) ≤ pr μ s (fr μ s (20 - (d + 1))) then fr μ s (20 - (d + 1)) else 20 - d := by
        rw [show 20 - d = (20 - (d + 1)) + 1 by omega, fr]
      rw [show (((20 - d : Nat) : Int) + 1) = 21 - (d : Int) by omega]
      split
      · rename_i q
        rw [if_pos q] at f2
        rw [← f2, e]
        rfl
      · rename_i q
        rw [if_neg q] at f2
        rw [f2] at e
        exact e
  exact key 20 FU (by omega) (FU_lt (by omega))
theorem sp_free : Sp_free Inv := by
  intro σC σM i h
  have h := Inv_0 h
  obtain ⟨z, hz1, hz2, rfl⟩ := zI_of i
  unfold F_X11_free F_X12_free
  rw [sw]
  generalize si σM 0 0 0 = s1 at h ⊢
  rcases h.2.2.2 with ⟨u1, u2⟩ | ⟨n, nb, t, hd, ac, μ, un, ⟨⟨l1, l2, l3, l4⟩, ⟨g, g8, g9⟩, hm, ⟨hy, hyn⟩, ht, hb, hn, hk, hp, hi⟩, ca⟩
  · refine q_fin h (w := zI 1) (by decide) (v := zI (-1)) ?_ ?_
    · rw [c_noS0 u1, Option.bind_some, if_neg (show ¬ zI 1 = 0 by decide)]
      simp (disch := omega) only [↓reduceIte, and_self, true_and, and_true, false_and, and_false, Int.reduceEq, Int.reduceLT, Int.reduceLE, sw, Option.bind_some, zl0, zl1, zl2, zl3, zl4, zl5, zl6, zl7, zl8, zl9, zl10, zl20, zl21, zl28, zl33, zl34, zI_neg, zI_add, zI_sub, zI_mul, zI_lt, zI_le, zI_eq, zI_ib, zI_ix, if_pos, if_neg, F_X11_answer, F_X11_refuse, F_X12_tells, F_X12_refused, if_true, if_false]
    · rw [m_isS0 u2, Option.bind_some, if_pos (show zI 0 = 0 by decide)]
      simp (disch := omega) only [↓reduceIte, and_self, true_and, and_true, false_and, and_false, Int.reduceEq, Int.reduceLT, Int.reduceLE, sw, Option.bind_some, zl0, zl1, zl2, zl3, zl4, zl5, zl6, zl7, zl8, zl9, zl10, zl20, zl21, zl28, zl33, zl34, zI_neg, zI_add, zI_sub, zI_mul, zI_lt, zI_le, zI_eq, zI_ib, zI_ix, if_pos, if_neg, F_X11_answer, F_X11_refuse, F_X12_tells, F_X12_refused, if_true, if_false]
  · have T := tC_t l4
    have h4 := g.1.2.1
    rcases (show ¬ (0 ≤ z ∧ z < n) ∨ ∃ s : Nat, z = s ∧ s < n from if q : 0 ≤ z ∧ z < n then Or.inr ⟨z.toNat, by omega, by omega⟩ else Or.inl q) with q | ⟨s, rfl, hs⟩
    · refine q_fin h (w := zI 1) (by decide) (v := zI (-1)) ?_ ?_
      · rw [show F_X11_noService σC (zI z) = some (zI 1) from (c_noS l1 l3 T.1 ht.1.1 h4 ⟨hz1, hz2⟩).trans (congrArg some (if_neg q)), Option.bind_some, if_neg (show ¬ zI 1 = 0 by decide)]
        simp (disch := omega) only [↓reduceIte, and_self, true_and, and_true, false_and, and_false, Int.reduceEq, Int.reduceLT, Int.reduceLE, sw, Option.bind_some, zl0, zl1, zl2, zl3, zl4, zl5, zl6, zl7, zl8, zl9, zl10, zl20, zl21, zl28, zl33, zl34, zI_neg, zI_add, zI_sub, zI_mul, zI_lt, zI_le, zI_eq, zI_ib, zI_ix, if_pos, if_neg, F_X11_answer, F_X11_refuse, F_X12_tells, F_X12_refused, if_true, if_false]
      · rw [show F_X12_isService s1 (zI z) = some (zI 0) from (m_isS hm l2 h4 ⟨hz1, hz2⟩).trans (congrArg some (if_neg q)), Option.bind_some, if_pos (show zI 0 = 0 by decide)]
        simp (disch := omega) only [↓reduceIte, and_self, true_and, and_true, false_and, and_false, Int.reduceEq, Int.reduceLT, Int.reduceLE, sw, Option.bind_some, zl0, zl1, zl2, zl3, zl4, zl5, zl6, zl7, zl8, zl9, zl10, zl20, zl21, zl28, zl33, zl34, zI_neg, zI_add, zI_sub, zI_mul, zI_lt, zI_le, zI_eq, zI_ib, zI_ix, if_pos, if_neg, F_X11_answer, F_X11_refuse, F_X12_tells, F_X12_refused, if_true, if_false]
    · refine q_fin h (w := zI 0) (by decide) (v := zI (fr μ s 20)) ?_ ?_
      · rw [show F_X11_noService σC (zI s) = some (zI 0) from (c_noS l1 l3 T.1 ht.1.1 h4 ⟨hz1, hz2⟩).trans (congrArg some (if_pos (by omega))), Option.bind_some, if_pos (show zI 0 = 0 by decide), l3, Option.bind_some, if_pos T.1, c_free T ht g.2.1 h4 hs, Option.bind_some]
        rfl
      · rw [show F_X12_isService s1 (zI s) = some (zI 1) from (m_isS hm l2 h4 ⟨hz1, hz2⟩).trans (congrArg some (if_pos (by omega))), Option.bind_some, if_neg (show ¬ zI 1 = 0 by decide)]
        exact m_free hm g.2.1 h4 hs
