/-! THE CALLS THAT ONLY LOOK -/
theorem zI_of (i : Int32) : ∃ z : Int, -2147483648 ≤ z ∧ z < 2147483648 ∧ i = zI z := ⟨i.toInt, by have := Int32.le_toInt i; omega, by have := Int32.toInt_lt i; omega, (zI_toInt i).symm⟩
theorem zl11 : (11 : Int32) = zI 11 := by decide
theorem q_fin {σC s1 : Sto} {FC FM : Option (Int32 × Sto)} {v w : Int32} (h : Inv σC s1) (hw : w ≠ 4) (e1 : FC = some (v, si σC 0 18 w)) (e2 : FM = some (v, si (si s1 0 1 w) 0 2 (-1))) : ∃ (v : Int32) (τC τM : Sto), FC = some (v, τC) ∧ FM = some (v, τM) ∧ Inv τC τM :=
  ⟨v, _, _, e1, e2, Inv_q h (AgM_rfl _) hw⟩
theorem m_in (σ : Sto) {a b c : Int} (h1 : -2147483648 ≤ a ∧ a < 2147483648) (h2 : -2147483648 ≤ b ∧ b < 2147483648) (h3 : -2147483648 ≤ c ∧ c < 2147483648) : F_X12_in σ (zI a) (zI b) (zI c) = some (if b ≤ a ∧ a ≤ c then zI 1 else zI 0) := by
  unfold F_X12_in
  simp (disch := omega) only [zI_lt, zl0, zl1]
  by_cases q : a < b
  · rw [if_pos q, if_neg (by omega)]
  · rw [if_neg q]
    by_cases q2 : c < a
    · rw [if_pos q2, if_neg (by omega)]
    · rw [if_neg q2, if_pos (by omega)]
theorem m_isP (σ : Sto) {a : Int} (h1 : -2147483648 ≤ a ∧ a < 2147483648) : F_X12_isPrice σ (zI a) = some (if 0 ≤ a ∧ a ≤ 20 then zI 1 else zI 0) := by
  unfold F_X12_isPrice
  rw [zl20, zl0, m_in σ h1 (by omega) (by omega), Option.bind_some]
  split <;> simp only [zl1, true_or, or_true, if_true]
theorem m_isS {σ : Sto} {μ : Nat → Int} {n : Nat} (h : MS σ μ n) (hl : σ.1 0 25 = 1) (h4 : n ≤ 4) {a : Int} (h1 : -2147483648 ≤ a ∧ a < 2147483648) : F_X12_isService σ (zI a) = some (if 0 ≤ a ∧ a < n then zI 1 else zI 0) := by
  unfold F_X12_isService
  rw [hl, if_neg (by decide), h.2, zl0, zl1, zI_sub, m_in σ h1 (by omega) (by omega), Option.bind_some]
  by_cases q : 0 ≤ a ∧ a < n
  · rw [if_pos (show 0 ≤ a ∧ a ≤ (n : Int) - 1 by omega), if_pos q]
    exact if_neg (by decide)
  · rw [if_neg (show ¬ (0 ≤ a ∧ a ≤ (n : Int) - 1) by omega), if_neg q]
    exact if_pos rfl
theorem m_isB {σ : Sto} {nb : Nat} (h : σ.1 0 28 = zI nb) (hl : σ.1 0 25 = 1) (h4 : nb ≤ 4) {a : Int} (h1 : -2147483648 ≤ a ∧ a < 2147483648) : F_X12_isBuyer σ (zI a) = some (if 0 ≤ a ∧ a < nb then zI 1 else zI 0) := by
  unfold F_X12_isBuyer
  rw [hl, if_neg (by decide), h, zl0, zl1, zI_sub, m_in σ h1 (by omega) (by omega), Option.bind_some]
  by_cases q : 0 ≤ a ∧ a < nb
  · rw [if_pos (show 0 ≤ a ∧ a ≤ (nb : Int) - 1 by omega), if_pos q]
    exact if_neg (by decide)
  · rw [if_neg (show ¬ (0 ≤ a ∧ a ≤ (nb : Int) - 1) by omega), if_neg q]
    exact if_pos rfl
theorem c_noP (σ : Sto) {a : Int} (h1 : -2147483648 ≤ a ∧ a < 2147483648) : F_X11_noPrice σ (zI a) = some (if 0 ≤ a ∧ a ≤ 20 then zI 0 else zI 1) := by
  unfold F_X11_noPrice F_X11_noPrice_10
  simp (disch := omega) only [zI_lt, zI_le, zl0, zl1, zl20]
  by_cases q : a < 0
  · rw [if_pos q, if_neg (by omega)]
  · rw [if_neg q]
    by_cases q2 : a ≤ 20
    · rw [if_pos q2, if_pos (by omega)]
    · rw [if_neg q2, if_neg (by omega)]
theorem c_noS {σ : Sto} {t n : Nat} (hl : σ.1 0 13 = 1) (ht : σ.2.2 0 11 = some t) (hs : (shC t).1 = 9) (hn : σ.1 t 0 = zI n) (h4 : n ≤ 4) {a : Int} (h1 : -2147483648 ≤ a ∧ a < 2147483648) : F_X11_noService σ (zI a) = some (if 0 ≤ a ∧ a < n then zI 0 else zI 1) := by
  unfold F_X11_noService F_X11_noService_22
  rw [hl, if_neg (by decide), ht, Option.bind_some, if_pos hs, hn]
  simp (disch := omega) only [zI_lt, zI_le, zl0, zl1]
  by_cases q : a < 0
  · rw [if_pos q, if_neg (by omega)]
  · rw [if_neg q]
    by_cases q2 : a < n
    · rw [if_pos q2, if_pos (by omega)]
    · rw [if_neg q2, if_neg (by omega)]
theorem c_noB {σ : Sto} {t n : Nat} (hl : σ.1 0 13 = 1) (ht : σ.2.2 0 11 = some t) (hs : (shC t).1 = 9) (hn : σ.1 t 1 = zI n) (h4 : n ≤ 4) {a : Int} (h1 : -2147483648 ≤ a ∧ a < 2147483648) : F_X11_noBuyer σ (zI a) = some (if 0 ≤ a ∧ a < n then zI 0 else zI 1) := by
  unfold F_X11_noBuyer F_X11_noBuyer_22
  rw [hl, if_neg (by decide), ht, Option.bind_some, if_pos hs, hn]
  simp (disch := omega) only [zI_lt, zI_le, zl0, zl1]
  by_cases q : a < 0
  · rw [if_pos q, if_neg (by omega)]
  · rw [if_neg q]
    by_cases q2 : a < n
    · rw [if_pos q2, if_pos (by omega)]
    · rw [if_neg q2, if_neg (by omega)]
theorem c_noS0 {σ : Sto} (hl : σ.1 0 13 = 0) (a : Int32) : F_X11_noService σ a = some (zI 1) := by
  unfold F_X11_noService F_X11_noService_22
  rw [hl, if_pos rfl, zl1]
theorem c_noB0 {σ : Sto} (hl : σ.1 0 13 = 0) (a : Int32) : F_X11_noBuyer σ a = some (zI 1) := by
  unfold F_X11_noBuyer F_X11_noBuyer_22
  rw [hl, if_pos rfl, zl1]
theorem m_isS0 {σ : Sto} (hl : σ.1 0 25 = 0) (a : Int32) : F_X12_isService σ a = some (zI 0) := by
  unfold F_X12_isService
  rw [hl, if_pos rfl, zl0]
theorem m_isB0 {σ : Sto} (hl : σ.1 0 25 = 0) (a : Int32) : F_X12_isBuyer σ a = some (zI 0) := by
  unfold F_X12_isBuyer
  rw [hl, if_pos rfl, zl0]
theorem sp_fault : Sp_fault Inv := fun σC σM h => ⟨_, _, rfl, by
  have q := (Inv_0 h).2.1.2.1
  unfold F_X12_fault
  rw [sw, q], Inv_0 h⟩
theorem sp_bytes : Sp_bytes Inv := fun σC σM h => by
  obtain ⟨m, -, h1, h2, -⟩ := (Inv_0 h).1.1
  exact ⟨zI m, _, by unfold F_X11_bytes; rw [h1], by unfold F_X12_bytes; rw [sw, h2], Inv_0 h⟩
theorem sp_trouble : Sp_trouble Inv := fun σC σM h => ⟨_, _, rfl, by
  have q := (Inv_0 h).2.1.1
  unfold F_X12_trouble
  rw [sw, q], Inv_0 h⟩
theorem sp_where : Sp_where Inv := fun σC σM h => by
  have q := (Inv_0 h).2.1.2.2
  refine ⟨if σC.1 0 18 = 4 then σC.1 0 17 else -1, _, ?_, ?_, Inv_0 h⟩
  · unfold F_X11_where
    split <;> rfl
  · unfold F_X12_where
    rw [sw, q]
theorem mo0 {σ : Sto} {μ : Nat → Int} {n : Nat} (h : MS σ μ n) {s : Nat} (hs : s < 4) : F_X12_of σ (zI s) (zI 0) = some (zI (μ (7 * s))) := m_of (w := 0) h hs (by omega)
theorem mo1 {σ : Sto} {μ : Nat → Int} {n : Nat} (h : MS σ μ n) {s : Nat} (hs : s < 4) : F_X12_of σ (zI s) (zI 1) = some (zI (μ (7 * s + 1))) := m_of (w := 1) h hs (by omega)
theorem mo2 {σ : Sto} {μ : Nat → Int} {n : Nat} (h : MS σ μ n) {s : Nat} (hs : s < 4) : F_X12_of σ (zI s) (zI 2) = some (zI (μ (7 * s + 2))) := m_of (w := 2) h hs (by omega)
theorem mo3 {σ : Sto} {μ : Nat → Int} {n : Nat} (h : MS σ μ n) {s : Nat} (hs : s < 4) : F_X12_of σ (zI s) (zI 3) = some (zI (μ (7 * s + 3))) := m_of (w := 3) h hs (by omega)
theorem mo4 {σ : Sto} {μ : Nat → Int} {n : Nat} (h : MS σ μ n) {s : Nat} (hs : s < 4) : F_X12_of σ (zI s) (zI 4) = some (zI (μ (7 * s + 4))) := m_of (w := 4) h hs (by omega)
theorem mo5 {σ : Sto} {μ : Nat → Int} {n : Nat} (h : MS σ μ n) {s : Nat} (hs : s < 4) : F_X12_of σ (zI s) (zI 5) = some (zI (μ (7 * s + 5))) := m_of (w := 5) h hs (by omega)
theorem mo6 {σ : Sto} {μ : Nat → Int} {n : Nat} (h : MS σ μ n) {s : Nat} (hs : s < 4) : F_X12_of σ (zI s) (zI 6) = some (zI (μ (7 * s + 6))) := m_of (w := 6) h hs (by omega)
theorem mf0 {σ : Sto} {μ : Nat → Int} {n c : Nat} (h : MS σ μ n) (g : Gd μ n c) : F_X12_off σ (zI 0) = some (zI (of1 μ n 0)) := m_off (w := 0) h g (by omega)
theorem mf1 {σ : Sto} {μ : Nat → Int} {n c : Nat} (h : MS σ μ n) (g : Gd μ n c) : F_X12_off σ (zI 1) = some (zI (of1 μ n 1)) := m_off (w := 1) h g (by omega)
theorem tw1 {σ : Sto} {t n : Nat} {μ : Nat → Int} (ht : (shC t).1 = 9) (h : TV σ t μ n) (h4 : n ≤ 4) {s : Nat} (hs : s < n) : F_X9_valueOf σ t (zI 1) (zI s) = some (zI (μ (7 * s + 2))) := t_v1 ht h h4 hs
theorem tw2 {σ : Sto} {t n : Nat} {μ : Nat → Int} (ht : (shC t).1 = 9) (h : TV σ t μ n) (h4 : n ≤ 4) {s : Nat} (hs : s < n) : F_X9_valueOf σ t (zI 2) (zI s) = some (zI (μ (7 * s + 3))) := t_v2 ht h h4 hs
theorem tw3 {σ : Sto} {t n : Nat} {μ : Nat → Int} (ht : (shC t).1 = 9) (h : TV σ t μ n) (h4 : n ≤ 4) {s : Nat} (hs : s < n) : F_X9_valueOf σ t (zI 3) (zI s) = some (zI (μ (7 * s + 4))) := t_v3 ht h h4 hs
theorem tw5 {σ : Sto} {t n : Nat} {μ : Nat → Int} (ht : (shC t).1 = 9) (h : TV σ t μ n) (h4 : n ≤ 4) {s : Nat} (hs : s < n) : F_X9_valueOf σ t (zI 5) (zI s) = some (zI (μ (7 * s + 6))) := t_v5 ht h h4 hs
theorem sp_rule : Sp_rule Inv := by
  intro σC σM i h
  have h := Inv_0 h
  obtain ⟨z, hz1, hz2, rfl⟩ := zI_of i
  unfold F_X11_rule F_X12_rule F_X11_rule_16 F_X12_rule_37
  rw [sw]
  generalize si σM 0 0 0 = s1 at h ⊢
  rcases h.2.2.2 with ⟨u1, u2⟩ | ⟨n, nb, t, hd, ac, μ, un, ⟨⟨l1, l2, l3, l4⟩, ⟨g, g8, g9⟩, hm, ⟨hy, hyn⟩, ht, hb, hn, hk, hp, hi⟩, ca⟩
  · refine q_fin h (w := zI 1) (by decide) (v := zI (-1)) ?_ ?_
    · simp (disch := omega) only [u1, ↓reduceIte, and_self, true_and, and_true, false_and, and_false, Int.reduceEq, Int.reduceLT, Int.reduceLE, sw, Option.bind_some, zl0, zl1, zl2, zl3, zl4, zl5, zl6, zl7, zl8, zl9, zl10, zl20, zl21, zl28, zl33, zl34, zI_neg, zI_add, zI_sub, zI_mul, zI_lt, zI_le, zI_eq, zI_ib, zI_ix, if_pos, if_neg, F_X11_answer, F_X11_refuse, F_X12_tells, F_X12_refused, if_true, if_false]
    · simp (disch := omega) only [u2, ↓reduceIte, and_self, true_and, and_true, false_and, and_false, Int.reduceEq, Int.reduceLT, Int.reduceLE, sw, Option.bind_some, zl0, zl1, zl2, zl3, zl4, zl5, zl6, zl7, zl8, zl9, zl10, zl20, zl21, zl28, zl33, zl34, zI_neg, zI_add, zI_sub, zI_mul, zI_lt, zI_le, zI_eq, zI_ib, zI_ix, if_pos, if_neg, F_X11_answer, F_X11_refuse, F_X12_tells, F_X12_refused, if_true, if_false]
  · rcases (show z < 0 ∨ (0 ≤ z ∧ z < 4) ∨ 4 ≤ z by omega) with q | q | q
    · refine q_fin h (w := zI 1) (by decide) (v := zI (-1)) ?_ ?_
      · simp (disch := omega) only [l1, ↓reduceIte, and_self, true_and, and_true, false_and, and_false, Int.reduceEq, Int.reduceLT, Int.reduceLE, sw, Option.bind_some, zl0, zl1, zl2, zl3, zl4, zl5, zl6, zl7, zl8, zl9, zl10, zl20, zl21, zl28, zl33, zl34, zI_neg, zI_add, zI_sub, zI_mul, zI_lt, zI_le, zI_eq, zI_ib, zI_ix, if_pos, if_neg, F_X11_answer, F_X11_refuse, F_X12_tells, F_X12_refused, if_true, if_false]
      · simp (disch := omega) only [l2, m_in, ↓reduceIte, and_self, true_and, and_true, false_and, and_false, Int.reduceEq, Int.reduceLT, Int.reduceLE, sw, Option.bind_some, zl0, zl1, zl2, zl3, zl4, zl5, zl6, zl7, zl8, zl9, zl10, zl20, zl21, zl28, zl33, zl34, zI_neg, zI_add, zI_sub, zI_mul, zI_lt, zI_le, zI_eq, zI_ib, zI_ix, if_pos, if_neg, F_X11_answer, F_X11_refuse, F_X12_tells, F_X12_refused, if_true, if_false]
    · have e := hm.1 (28 + z.toNat) (by omega)
      have e2 := hy.2.1 z.toNat (by omega)
      refine q_fin h (w := zI 0) (by decide) (v := zI (μ (28 + z.toNat))) ?_ ?_
      · simp (disch := omega) only [l1, e2, ↓reduceIte, and_self, true_and, and_true, false_and, and_false, Int.reduceEq, Int.reduceLT, Int.reduceLE, sw, Option.bind_some, zl0, zl1, zl2, zl3, zl4, zl5, zl6, zl7, zl8, zl9, zl10, zl20, zl21, zl28, zl33, zl34, zI_neg, zI_add, zI_sub, zI_mul, zI_lt, zI_le, zI_eq, zI_ib, zI_ix, if_pos, if_neg, F_X11_answer, F_X11_refuse, F_X12_tells, F_X12_refused, if_true, if_false]
      · simp (disch := omega) only [l2, m_in, ↓reduceIte, and_self, true_and, and_true, false_and, and_false, Int.reduceEq, Int.reduceLT, Int.reduceLE, sw, Option.bind_some, zl0, zl1, zl2, zl3, zl4, zl5, zl6, zl7, zl8, zl9, zl10, zl20, zl21, zl28, zl33, zl34, zI_neg, zI_add, zI_sub, zI_mul, zI_lt, zI_le, zI_eq, zI_ib, zI_ix, if_pos, if_neg, F_X11_answer, F_X11_refuse, F_X12_tells, F_X12_refused, if_true, if_false]
        rw [show (28 + z).toNat = 28 + z.toNat by omega, e]
    · refine q_fin h (w := zI 1) (by decide) (v := zI (-1)) ?_ ?_
      · simp (disch := omega) only [l1, ↓reduceIte, and_self, true_and, and_true, false_and, and_false, Int.reduceEq, Int.reduceLT, Int.reduceLE, sw, Option.bind_some, zl0, zl1, zl2, zl3, zl4, zl5, zl6, zl7, zl8, zl9, zl10, zl20, zl21, zl28, zl33, zl34, zI_neg, zI_add, zI_sub, zI_mul, zI_lt, zI_le, zI_eq, zI_ib, zI_ix, if_pos, if_neg, F_X11_answer, F_X11_refuse, F_X12_tells, F_X12_refused, if_true, if_false]
      · simp (disch := omega) only [l2, m_in, ↓reduceIte, and_self, true_and, and_true, false_and, and_false, Int.reduceEq, Int.reduceLT, Int.reduceLE, sw, Option.bind_some, zl0, zl1, zl2, zl3, zl4, zl5, zl6, zl7, zl8, zl9, zl10, zl20, zl21, zl28, zl33, zl34, zI_neg, zI_add, zI_sub, zI_mul, zI_lt, zI_le, zI_eq, zI_ib, zI_ix, if_pos, if_neg, F_X11_answer, F_X11_refuse, F_X12_tells, F_X12_refused, if_true, if_false]
theorem sp_carried : Sp_carried Inv := by
  intro σC σM i h
  have h := Inv_0 h
  obtain ⟨z, hz1, hz2, rfl⟩ := zI_of i
  unfold F_X11_carried F_X12_carried F_X11_carried_16 F_X12_carried_21 F_X11_carried_48 F_X12_carried_51
  rw [sw]
  generalize si σM 0 0 0 = s1 at h ⊢
  rcases h.2.2.2 with ⟨u1, u2⟩ | ⟨n, nb, t, hd, ac, μ, un, ⟨⟨l1, l2, l3, l4⟩, ⟨g, g8, g9⟩, hm, ⟨hy, hyn⟩, ht, hb, hn, hk, hp, hi⟩, ca⟩
  · refine q_fin h (w := zI 1) (by decide) (v := zI (-1)) ?_ ?_
    · simp (disch := omega) only [u1, ↓reduceIte, and_self, true_and, and_true, false_and, and_false, Int.reduceEq, Int.reduceLT, Int.reduceLE, sw, Option.bind_some, zl0, zl1, zl2, zl3, zl4, zl5, zl6, zl7, zl8, zl9, zl10, zl20, zl21, zl28, zl33, zl34, zI_neg, zI_add, zI_sub, zI_mul, zI_lt, zI_le, zI_eq, zI_ib, zI_ix, if_pos, if_neg, F_X11_answer, F_X11_refuse, F_X12_tells, F_X12_refused, if_true, if_false]
    · simp (disch := omega) only [u2, ↓reduceIte, and_self, true_and, and_true, false_and, and_false, Int.reduceEq, Int.reduceLT, Int.reduceLE, sw, Option.bind_some, zl0, zl1, zl2, zl3, zl4, zl5, zl6, zl7, zl8, zl9, zl10, zl20, zl21, zl28, zl33, zl34, zI_neg, zI_add, zI_sub, zI_mul, zI_lt, zI_le, zI_eq, zI_ib, zI_ix, if_pos, if_neg, F_X11_answer, F_X11_refuse, F_X12_tells, F_X12_refused, if_true, if_false]
  · have T := tC_t l4
    rcases (show z < 0 ∨ z = 0 ∨ z = 1 ∨ 1 < z by omega) with q | rfl | rfl | q
    · refine q_fin h (w := zI 1) (by decide) (v := zI (-1)) ?_ ?_
      · simp (disch := omega) only [l1, ↓reduceIte, and_self, true_and, and_true, false_and, and_false, Int.reduceEq, Int.reduceLT, Int.reduceLE, sw, Option.bind_some, zl0, zl1, zl2, zl3, zl4, zl5, zl6, zl7, zl8, zl9, zl10, zl20, zl21, zl28, zl33, zl34, zI_neg, zI_add, zI_sub, zI_mul, zI_lt, zI_le, zI_eq, zI_ib, zI_ix, if_pos, if_neg, F_X11_answer, F_X11_refuse, F_X12_tells, F_X12_refused, if_true, if_false]
      · simp (disch := omega) only [l2, m_in, ↓reduceIte, and_self, true_and, and_true, false_and, and_false, Int.reduceEq, Int.reduceLT, Int.reduceLE, sw, Option.bind_some, zl0, zl1, zl2, zl3, zl4, zl5, zl6, zl7, zl8, zl9, zl10, zl20, zl21, zl28, zl33, zl34, zI_neg, zI_add, zI_sub, zI_mul, zI_lt, zI_le, zI_eq, zI_ib, zI_ix, if_pos, if_neg, F_X11_answer, F_X11_refuse, F_X12_tells, F_X12_refused, if_true, if_false]
    · have e := hm.1 33 (by omega)
      refine q_fin h (w := zI 0) (by decide) (v := zI (μ 33)) ?_ ?_
      · simp (disch := omega) only [l1, hy.2.2, ↓reduceIte, and_self, true_and, and_true, false_and, and_false, Int.reduceEq, Int.reduceLT, Int.reduceLE, sw, Option.bind_some, zl0, zl1, zl2, zl3, zl4, zl5, zl6, zl7, zl8, zl9, zl10, zl20, zl21, zl28, zl33, zl34, zI_neg, zI_add, zI_sub, zI_mul, zI_lt, zI_le, zI_eq, zI_ib, zI_ix, if_pos, if_neg, F_X11_answer, F_X11_refuse, F_X12_tells, F_X12_refused, if_true, if_false]
      · simp (disch := omega) only [l2, m_in, show Int.toNat 33 = 33 from rfl, e, ↓reduceIte, and_self, true_and, and_true, false_and, and_false, Int.reduceEq, Int.reduceLT, Int.reduceLE, sw, Option.bind_some, zl0, zl1, zl2, zl3, zl4, zl5, zl6, zl7, zl8, zl9, zl10, zl20, zl21, zl28, zl33, zl34, zI_neg, zI_add, zI_sub, zI_mul, zI_lt, zI_le, zI_eq, zI_ib, zI_ix, if_pos, if_neg, F_X11_answer, F_X11_refuse, F_X12_tells, F_X12_refused, if_true, if_false]
    · refine q_fin h (w := zI 0) (by decide) (v := zI (al μ n - sp μ n)) ?_ ?_
      · simp (disch := omega) only [l1, l3, y_left yC_3 T hy ht g, ↓reduceIte, and_self, true_and, and_true, false_and, and_false, Int.reduceEq, Int.reduceLT, Int.reduceLE, sw, Option.bind_some, zl0, zl1, zl2, zl3, zl4, zl5, zl6, zl7, zl8, zl9, zl10, zl20, zl21, zl28, zl33, zl34, zI_neg, zI_add, zI_sub, zI_mul, zI_lt, zI_le, zI_eq, zI_ib, zI_ix, if_pos, if_neg, F_X11_answer, F_X11_refuse, F_X12_tells, F_X12_refused, if_true, if_false]
      · simp (disch := omega) only [l2, m_in, m_allowed hm g, m_spent hm g, ↓reduceIte, and_self, true_and, and_true, false_and, and_false, Int.reduceEq, Int.reduceLT, Int.reduceLE, sw, Option.bind_some, zl0, zl1, zl2, zl3, zl4, zl5, zl6, zl7, zl8, zl9, zl10, zl20, zl21, zl28, zl33, zl34, zI_neg, zI_add, zI_sub, zI_mul, zI_lt, zI_le, zI_eq, zI_ib, zI_ix, if_pos, if_neg, F_X11_answer, F_X11_refuse, F_X12_tells, F_X12_refused, if_true, if_false]
    · refine q_fin h (w := zI 1) (by decide) (v := zI (-1)) ?_ ?_
      · simp (disch := omega) only [l1, ↓reduceIte, and_self, true_and, and_true, false_and, and_false, Int.reduceEq, Int.reduceLT, Int.reduceLE, sw, Option.bind_some, zl0, zl1, zl2, zl3, zl4, zl5, zl6, zl7, zl8, zl9, zl10, zl20, zl21, zl28, zl33, zl34, zI_neg, zI_add, zI_sub, zI_mul, zI_lt, zI_le, zI_eq, zI_ib, zI_ix, if_pos, if_neg, F_X11_answer, F_X11_refuse, F_X12_tells, F_X12_refused, if_true, if_false]
      · simp (disch := omega) only [l2, m_in, ↓reduceIte, and_self, true_and, and_true, false_and, and_false, Int.reduceEq, Int.reduceLT, Int.reduceLE, sw, Option.bind_some, zl0, zl1, zl2, zl3, zl4, zl5, zl6, zl7, zl8, zl9, zl10, zl20, zl21, zl28, zl33, zl34, zI_neg, zI_add, zI_sub, zI_mul, zI_lt, zI_le, zI_eq, zI_ib, zI_ix, if_pos, if_neg, F_X11_answer, F_X11_refuse, F_X12_tells, F_X12_refused, if_true, if_false]
theorem sp_service : Sp_service Inv := by
  intro σC σM i j h
  have h := Inv_0 h
  obtain ⟨z, hz1, hz2, rfl⟩ := zI_of i
  obtain ⟨w, hw1, hw2, rfl⟩ := zI_of j
  unfold F_X11_service F_X12_service F_X12_service_23 F_X12_service_50
  rw [sw]
  generalize si σM 0 0 0 = s1 at h ⊢
  rcases h.2.2.2 with ⟨u1, u2⟩ | ⟨n, nb, t, hd, ac, μ, un, ⟨⟨l1, l2, l3, l4⟩, ⟨g, g8, g9⟩, hm, ⟨hy, hyn⟩, ht, hb, hn, hk, hp, hi⟩, ca⟩
  · refine q_fin h (w := zI 1) (by decide) (v := zI (-1)) ?_ ?_
    · rw [c_noS0 u1, Option.bind_some, if_neg (show ¬ zI 1 = 0 by decide)]
      simp (disch := omega) only [↓reduceIte, and_self, true_and, and_true, false_and, and_false, Int.reduceEq, Int.reduceLT, Int.reduceLE, sw, Option.bind_some, zl0, zl1, zl2, zl3, zl4, zl5, zl6, zl7, zl8, zl9, zl10, zl20, zl21, zl28, zl33, zl34, zI_neg, zI_add, zI_sub, zI_mul, zI_lt, zI_le, zI_eq, zI_ib, zI_ix, if_pos, if_neg, F_X11_answer, F_X11_refuse, F_X12_tells, F_X12_refused, if_true, if_false]
    · rw [m_isS0 u2, Option.bind_some, if_pos (show zI 0 = 0 by decide)]
      simp (disch := omega) only [↓reduceIte, and_self, true_and, and_true, false_and, and_false, Int.reduceEq, Int.reduceLT, Int.reduceLE, sw, Option.bind_some, zl0, zl1, zl2, zl3, zl4, zl5, zl6, zl7, zl8, zl9, zl10, zl20, zl21, zl28, zl33, zl34, zI_neg, zI_add, zI_sub, zI_mul, zI_lt, zI_le, zI_eq, zI_ib, zI_ix, if_pos, if_neg, F_X11_answer, F_X11_refuse, F_X12_tells, F_X12_refused, if_true, if_false]
  · have T := tC_t l4
    have h4 := g.1.2.1
    rcases (show ¬ (0 ≤ z ∧ z < n) ∨ ∃ s : Nat, z = s ∧ s < n from if q : 0 ≤ z ∧ z < n then Or.inr ⟨z.toNat, by omega, by omega⟩ else Or.inl q) with q | ⟨s, rfl, hs⟩
    · refine q_fin h (w := zI 1) (by decide) (v := zI (-1)) ?_ ?_
      · rw [show F_X11_noService σC (zI z) = some (zI 1) from (c_noS l1 l3 T.1 ht.1.1 h4 ⟨hz1, hz2⟩).trans (congrArg some (if_neg q)), Option.bind_some, if_neg (show ¬ zI 1 = 0 by decide)]
        simp (disch := omega) only [↓reduceIte, and_self, true_and, and_true, false_and, and_false, Int.reduceEq, Int.reduceLT, Int.reduceLE, sw, Option.bind_some, zl0, zl1, zl2, zl3, zl4, zl5, zl6, zl7, zl8, zl9, zl10, zl20, zl21, zl28, zl33, zl34, zI_neg, zI_add, zI_sub, zI_mul, zI_lt, zI_le, zI_eq, zI_ib, zI_ix, if_pos, if_neg, F_X11_answer, F_X11_refuse, F_X12_tells, F_X12_refused, if_true, if_false]
      · rw [show F_X12_isService s1 (zI z) = some (zI 0) from (m_isS hm l2 h4 ⟨hz1, hz2⟩).trans (congrArg some (if_neg q)), Option.bind_some, if_pos (show zI 0 = 0 by decide)]
        simp (disch := omega) only [↓reduceIte, and_self, true_and, and_true, false_and, and_false, Int.reduceEq, Int.reduceLT, Int.reduceLE, sw, Option.bind_some, zl0, zl1, zl2, zl3, zl4, zl5, zl6, zl7, zl8, zl9, zl10, zl20, zl21, zl28, zl33, zl34, zI_neg, zI_add, zI_sub, zI_mul, zI_lt, zI_le, zI_eq, zI_ib, zI_ix, if_pos, if_neg, F_X11_answer, F_X11_refuse, F_X12_tells, F_X12_refused, if_true, if_false]
    · rcases (show w = 0 ∨ w = 1 ∨ w = 2 ∨ w = 3 ∨ w = 4 ∨ w = 5 ∨ w = 6 ∨ w = 7 ∨ ¬ (0 ≤ w ∧ w ≤ 7) by omega) with rfl | rfl | rfl | rfl | rfl | rfl | rfl | rfl | q
      · refine q_fin h (w := zI 0) (by decide) (v := zI (μ (7 * s))) ?_ ?_
        · rw [show F_X11_noService σC (zI s) = some (zI 0) from (c_noS l1 l3 T.1 ht.1.1 h4 ⟨hz1, hz2⟩).trans (congrArg some (if_pos (by omega))), Option.bind_some, if_pos (show zI 0 = 0 by decide)]
          simp (disch := omega) only [l3, (hy.1 s hs).1, Int.toNat_natCast, ↓reduceIte, and_self, true_and, and_true, false_and, and_false, Int.reduceEq, Int.reduceLT, Int.reduceLE, sw, Option.bind_some, zl0, zl1, zl2, zl3, zl4, zl5, zl6, zl7, zl8, zl9, zl10, zl20, zl21, zl28, zl33, zl34, zI_neg, zI_add, zI_sub, zI_mul, zI_lt, zI_le, zI_eq, zI_ib, zI_ix, if_pos, if_neg, F_X11_answer, F_X11_refuse, F_X12_tells, F_X12_refused, if_true, if_false]
        · rw [show F_X12_isService s1 (zI s) = some (zI 1) from (m_isS hm l2 h4 ⟨hz1, hz2⟩).trans (congrArg some (if_pos (by omega))), Option.bind_some, if_neg (show ¬ zI 1 = 0 by decide)]
          simp (disch := omega) only [m_in, mo0 hm (show s < 4 by omega), ↓reduceIte, and_self, true_and, and_true, false_and, and_false, Int.reduceEq, Int.reduceLT, Int.reduceLE, sw, Option.bind_some, zl0, zl1, zl2, zl3, zl4, zl5, zl6, zl7, zl8, zl9, zl10, zl20, zl21, zl28, zl33, zl34, zI_neg, zI_add, zI_sub, zI_mul, zI_lt, zI_le, zI_eq, zI_ib, zI_ix, if_pos, if_neg, F_X11_answer, F_X11_refuse, F_X12_tells, F_X12_refused, if_true, if_false]
      · refine q_fin h (w := zI 0) (by decide) (v := zI (μ (7 * s + 1))) ?_ ?_
        · rw [show F_X11_noService σC (zI s) = some (zI 0) from (c_noS l1 l3 T.1 ht.1.1 h4 ⟨hz1, hz2⟩).trans (congrArg some (if_pos (by omega))), Option.bind_some, if_pos (show zI 0 = 0 by decide)]
          simp (disch := omega) only [l3, (hy.1 s hs).2.1, Int.toNat_natCast, ↓reduceIte, and_self, true_and, and_true, false_and, and_false, Int.reduceEq, Int.reduceLT, Int.reduceLE, sw, Option.bind_some, zl0, zl1, zl2, zl3, zl4, zl5, zl6, zl7, zl8, zl9, zl10, zl20, zl21, zl28, zl33, zl34, zI_neg, zI_add, zI_sub, zI_mul, zI_lt, zI_le, zI_eq, zI_ib, zI_ix, if_pos, if_neg, F_X11_answer, F_X11_refuse, F_X12_tells, F_X12_refused, if_true, if_false]
        · rw [show F_X12_isService s1 (zI s) = some (zI 1) from (m_isS hm l2 h4 ⟨hz1, hz2⟩).trans (congrArg some (if_pos (by omega))), Option.bind_some, if_neg (show ¬ zI 1 = 0 by decide)]
          simp (disch := omega) only [m_in, mo1 hm (show s < 4 by omega), ↓reduceIte, and_self, true_and, and_true, false_and, and_false, Int.reduceEq, Int.reduceLT, Int.reduceLE, sw, Option.bind_some, zl0, zl1, zl2, zl3, zl4, zl5, zl6, zl7, zl8, zl9, zl10, zl20, zl21, zl28, zl33, zl34, zI_neg, zI_add, zI_sub, zI_mul, zI_lt, zI_le, zI_eq, zI_ib, zI_ix, if_pos, if_neg, F_X11_answer, F_X11_refuse, F_X12_tells, F_X12_refused, if_true, if_false]
      · refine q_fin h (w := zI 0) (by decide) (v := zI (μ (7 * s + 2))) ?_ ?_
        · rw [show F_X11_noService σC (zI s) = some (zI 0) from (c_noS l1 l3 T.1 ht.1.1 h4 ⟨hz1, hz2⟩).trans (congrArg some (if_pos (by omega))), Option.bind_some, if_pos (show zI 0 = 0 by decide)]
          simp (disch := omega) only [l3, T.1, tw1 T.1 ht.1 h4 hs, ↓reduceIte, and_self, true_and, and_true, false_and, and_false, Int.reduceEq, Int.reduceLT, Int.reduceLE, sw, Option.bind_some, zl0, zl1, zl2, zl3, zl4, zl5, zl6, zl7, zl8, zl9, zl10, zl20, zl21, zl28, zl33, zl34, zI_neg, zI_add, zI_sub, zI_mul, zI_lt, zI_le, zI_eq, zI_ib, zI_ix, if_pos, if_neg, F_X11_answer, F_X11_refuse, F_X12_tells, F_X12_refused, if_true, if_false]
        · rw [show F_X12_isService s1 (zI s) = some (zI 1) from (m_isS hm l2 h4 ⟨hz1, hz2⟩).trans (congrArg some (if_pos (by omega))), Option.bind_some, if_neg (show ¬ zI 1 = 0 by decide)]
          simp (disch := omega) only [m_in, mo2 hm (show s < 4 by omega), ↓reduceIte, and_self, true_and, and_true, false_and, and_false, Int.reduceEq, Int.reduceLT, Int.reduceLE, sw, Option.bind_some, zl0, zl1, zl2, zl3, zl4, zl5, zl6, zl7, zl8, zl9, zl10, zl20, zl21, zl28, zl33, zl34, zI_neg, zI_add, zI_sub, zI_mul, zI_lt, zI_le, zI_eq, zI_ib, zI_ix, if_pos, if_neg, F_X11_answer, F_X11_refuse, F_X12_tells, F_X12_refused, if_true, if_false]
      · refine q_fin h (w := zI 0) (by decide) (v := zI (μ (7 * s + 3))) ?_ ?_
        · rw [show F_X11_noService σC (zI s) = some (zI 0) from (c_noS l1 l3 T.1 ht.1.1 h4 ⟨hz1, hz2⟩).trans (congrArg some (if_pos (by omega))), Option.bind_some, if_pos (show zI 0 = 0 by decide)]
          simp (disch := omega) only [l3, T.1, tw2 T.1 ht.1 h4 hs, ↓reduceIte, and_self, true_and, and_true, false_and, and_false, Int.reduceEq, Int.reduceLT, Int.reduceLE, sw, Option.bind_some, zl0, zl1, zl2, zl3, zl4, zl5, zl6, zl7, zl8, zl9, zl10, zl20, zl21, zl28, zl33, zl34, zI_neg, zI_add, zI_sub, zI_mul, zI_lt, zI_le, zI_eq, zI_ib, zI_ix, if_pos, if_neg, F_X11_answer, F_X11_refuse, F_X12_tells, F_X12_refused, if_true, if_false]
        · rw [show F_X12_isService s1 (zI s) = some (zI 1) from (m_isS hm l2 h4 ⟨hz1, hz2⟩).trans (congrArg some (if_pos (by omega))), Option.bind_some, if_neg (show ¬ zI 1 = 0 by decide)]
          simp (disch := omega) only [m_in, mo3 hm (show s < 4 by omega), ↓reduceIte, and_self, true_and, and_true, false_and, and_false, Int.reduceEq, Int.reduceLT, Int.reduceLE, sw, Option.bind_some, zl0, zl1, zl2, zl3, zl4, zl5, zl6, zl7, zl8, zl9, zl10, zl20, zl21, zl28, zl33, zl34, zI_neg, zI_add, zI_sub, zI_mul, zI_lt, zI_le, zI_eq, zI_ib, zI_ix, if_pos, if_neg, F_X11_answer, F_X11_refuse, F_X12_tells, F_X12_refused, if_true, if_false]
      · refine q_fin h (w := zI 0) (by decide) (v := zI (μ (7 * s + 4))) ?_ ?_
        · rw [show F_X11_noService σC (zI s) = some (zI 0) from (c_noS l1 l3 T.1 ht.1.1 h4 ⟨hz1, hz2⟩).trans (congrArg some (if_pos (by omega))), Option.bind_some, if_pos (show zI 0 = 0 by decide)]
          simp (disch := omega) only [l3, T.1, tw3 T.1 ht.1 h4 hs, ↓reduceIte, and_self, true_and, and_true, false_and, and_false, Int.reduceEq, Int.reduceLT, Int.reduceLE, sw, Option.bind_some, zl0, zl1, zl2, zl3, zl4, zl5, zl6, zl7, zl8, zl9, zl10, zl20, zl21, zl28, zl33, zl34, zI_neg, zI_add, zI_sub, zI_mul, zI_lt, zI_le, zI_eq, zI_ib, zI_ix, if_pos, if_neg, F_X11_answer, F_X11_refuse, F_X12_tells, F_X12_refused, if_true, if_false]
        · rw [show F_X12_isService s1 (zI s) = some (zI 1) from (m_isS hm l2 h4 ⟨hz1, hz2⟩).trans (congrArg some (if_pos (by omega))), Option.bind_some, if_neg (show ¬ zI 1 = 0 by decide)]
          simp (disch := omega) only [m_in, mo4 hm (show s < 4 by omega), ↓reduceIte, and_self, true_and, and_true, false_and, and_false, Int.reduceEq, Int.reduceLT, Int.reduceLE, sw, Option.bind_some, zl0, zl1, zl2, zl3, zl4, zl5, zl6, zl7, zl8, zl9, zl10, zl20, zl21, zl28, zl33, zl34, zI_neg, zI_add, zI_sub, zI_mul, zI_lt, zI_le, zI_eq, zI_ib, zI_ix, if_pos, if_neg, F_X11_answer, F_X11_refuse, F_X12_tells, F_X12_refused, if_true, if_false]
      · refine q_fin h (w := zI 0) (by decide) (v := zI (μ (7 * s + 5))) ?_ ?_
        · rw [show F_X11_noService σC (zI s) = some (zI 0) from (c_noS l1 l3 T.1 ht.1.1 h4 ⟨hz1, hz2⟩).trans (congrArg some (if_pos (by omega))), Option.bind_some, if_pos (show zI 0 = 0 by decide)]
          simp (disch := omega) only [l3, (hy.1 s hs).2.2, Int.toNat_natCast, ↓reduceIte, and_self, true_and, and_true, false_and, and_false, Int.reduceEq, Int.reduceLT, Int.reduceLE, sw, Option.bind_some, zl0, zl1, zl2, zl3, zl4, zl5, zl6, zl7, zl8, zl9, zl10, zl20, zl21, zl28, zl33, zl34, zI_neg, zI_add, zI_sub, zI_mul, zI_lt, zI_le, zI_eq, zI_ib, zI_ix, if_pos, if_neg, F_X11_answer, F_X11_refuse, F_X12_tells, F_X12_refused, if_true, if_false]
        · rw [show F_X12_isService s1 (zI s) = some (zI 1) from (m_isS hm l2 h4 ⟨hz1, hz2⟩).trans (congrArg some (if_pos (by omega))), Option.bind_some, if_neg (show ¬ zI 1 = 0 by decide)]
          simp (disch := omega) only [m_in, mo5 hm (show s < 4 by omega), ↓reduceIte, and_self, true_and, and_true, false_and, and_false, Int.reduceEq, Int.reduceLT, Int.reduceLE, sw, Option.bind_some, zl0, zl1, zl2, zl3, zl4, zl5, zl6, zl7, zl8, zl9, zl10, zl20, zl21, zl28, zl33, zl34, zI_neg, zI_add, zI_sub, zI_mul, zI_lt, zI_le, zI_eq, zI_ib, zI_ix, if_pos, if_neg, F_X11_answer, F_X11_refuse, F_X12_tells, F_X12_refused, if_true, if_false]
      · refine q_fin h (w := zI 0) (by decide) (v := zI (μ (7 * s + 6))) ?_ ?_
        · rw [show F_X11_noService σC (zI s) = some (zI 0) from (c_noS l1 l3 T.1 ht.1.1 h4 ⟨hz1, hz2⟩).trans (congrArg some (if_pos (by omega))), Option.bind_some, if_pos (show zI 0 = 0 by decide)]
          simp (disch := omega) only [l3, T.1, tw5 T.1 ht.1 h4 hs, ↓reduceIte, and_self, true_and, and_true, false_and, and_false, Int.reduceEq, Int.reduceLT, Int.reduceLE, sw, Option.bind_some, zl0, zl1, zl2, zl3, zl4, zl5, zl6, zl7, zl8, zl9, zl10, zl20, zl21, zl28, zl33, zl34, zI_neg, zI_add, zI_sub, zI_mul, zI_lt, zI_le, zI_eq, zI_ib, zI_ix, if_pos, if_neg, F_X11_answer, F_X11_refuse, F_X12_tells, F_X12_refused, if_true, if_false]
        · rw [show F_X12_isService s1 (zI s) = some (zI 1) from (m_isS hm l2 h4 ⟨hz1, hz2⟩).trans (congrArg some (if_pos (by omega))), Option.bind_some, if_neg (show ¬ zI 1 = 0 by decide)]
          simp (disch := omega) only [m_in, mo6 hm (show s < 4 by omega), ↓reduceIte, and_self, true_and, and_true, false_and, and_false, Int.reduceEq, Int.reduceLT, Int.reduceLE, sw, Option.bind_some, zl0, zl1, zl2, zl3, zl4, zl5, zl6, zl7, zl8, zl9, zl10, zl20, zl21, zl28, zl33, zl34, zI_neg, zI_add, zI_sub, zI_mul, zI_lt, zI_le, zI_eq, zI_ib, zI_ix, if_pos, if_neg, F_X11_answer, F_X11_refuse, F_X12_tells, F_X12_refused, if_true, if_false]
      · refine q_fin h (w := zI 0) (by decide) (v := zI (we μ s)) ?_ ?_
        · rw [show F_X11_noService σC (zI s) = some (zI 0) from (c_noS l1 l3 T.1 ht.1.1 h4 ⟨hz1, hz2⟩).trans (congrArg some (if_pos (by omega))), Option.bind_some, if_pos (show zI 0 = 0 by decide)]
          simp (disch := omega) only [l3, y_weight yC_3 T hy ht g hs, ↓reduceIte, and_self, true_and, and_true, false_and, and_false, Int.reduceEq, Int.reduceLT, Int.reduceLE, sw, Option.bind_some, zl0, zl1, zl2, zl3, zl4, zl5, zl6, zl7, zl8, zl9, zl10, zl20, zl21, zl28, zl33, zl34, zI_neg, zI_add, zI_sub, zI_mul, zI_lt, zI_le, zI_eq, zI_ib, zI_ix, if_pos, if_neg, F_X11_answer, F_X11_refuse, F_X12_tells, F_X12_refused, if_true, if_false]
        · rw [show F_X12_isService s1 (zI s) = some (zI 1) from (m_isS hm l2 h4 ⟨hz1, hz2⟩).trans (congrArg some (if_pos (by omega))), Option.bind_some, if_neg (show ¬ zI 1 = 0 by decide)]
          simp (disch := omega) only [m_in, m_weight hm g hs, ↓reduceIte, and_self, true_and, and_true, false_and, and_false, Int.reduceEq, Int.reduceLT, Int.reduceLE, sw, Option.bind_some, zl0, zl1, zl2, zl3, zl4, zl5, zl6, zl7, zl8, zl9, zl10, zl20, zl21, zl28, zl33, zl34, zI_neg, zI_add, zI_sub, zI_mul, zI_lt, zI_le, zI_eq, zI_ib, zI_ix, if_pos, if_neg, F_X11_answer, F_X11_refuse, F_X12_tells, F_X12_refused, if_true, if_false]
      · refine q_fin h (w := zI 1) (by decide) (v := zI (-1)) ?_ ?_
        · rw [show F_X11_noService σC (zI s) = some (zI 0) from (c_noS l1 l3 T.1 ht.1.1 h4 ⟨hz1, hz2⟩).trans (congrArg some (if_pos (by omega))), Option.bind_some, if_pos (show zI 0 = 0 by decide)]
          simp (disch := omega) only [↓reduceIte, and_self, true_and, and_true, false_and, and_false, Int.reduceEq, Int.reduceLT, Int.reduceLE, sw, Option.bind_some, zl0, zl1, zl2, zl3, zl4, zl5, zl6, zl7, zl8, zl9, zl10, zl20, zl21, zl28, zl33, zl34, zI_neg, zI_add, zI_sub, zI_mul, zI_lt, zI_le, zI_eq, zI_ib, zI_ix, if_pos, if_neg, F_X11_answer, F_X11_refuse, F_X12_tells, F_X12_refused, if_true, if_false]
        · rw [show F_X12_isService s1 (zI s) = some (zI 1) from (m_isS hm l2 h4 ⟨hz1, hz2⟩).trans (congrArg some (if_pos (by omega))), Option.bind_some, if_neg (show ¬ zI 1 = 0 by decide)]
          simp (disch := omega) only [m_in, ↓reduceIte, and_self, true_and, and_true, false_and, and_false, Int.reduceEq, Int.reduceLT, Int.reduceLE, sw, Option.bind_some, zl0, zl1, zl2, zl3, zl4, zl5, zl6, zl7, zl8, zl9, zl10, zl20, zl21, zl28, zl33, zl34, zI_neg, zI_add, zI_sub, zI_mul, zI_lt, zI_le, zI_eq, zI_ib, zI_ix, if_pos, if_neg, F_X11_answer, F_X11_refuse, F_X12_tells, F_X12_refused, if_true, if_false]
theorem sp_bought : Sp_bought Inv := by
  intro σC σM i j h
  have h := Inv_0 h
  obtain ⟨z, hz1, hz2, rfl⟩ := zI_of i
  obtain ⟨w, hw1, hw2, rfl⟩ := zI_of j
  unfold F_X11_bought F_X12_bought F_X11_fromTable
  rw [sw]
  generalize si σM 0 0 0 = s1 at h ⊢
  rcases h.2.2.2 with ⟨u1, u2⟩ | ⟨n, nb, t, hd, ac, μ, un, ⟨⟨l1, l2, l3, l4⟩, ⟨g, g8, g9⟩, hm, ⟨hy, hyn⟩, ht, hb, hn, hk, hp, hi⟩, ca⟩
  · rcases h.1.2.2.1 with ⟨e, -⟩ | ⟨e, -⟩
    · refine q_fin h (w := zI 1) (by decide) (v := zI (-1)) ?_ ?_
      · simp (disch := omega) only [e, c_noS0 u1, show (shC 102).1 = 9 from by decide, ↓reduceIte, and_self, true_and, and_true, false_and, and_false, Int.reduceEq, Int.reduceLT, Int.reduceLE, sw, Option.bind_some, zl0, zl1, zl2, zl3, zl4, zl5, zl6, zl7, zl8, zl9, zl10, zl20, zl21, zl28, zl33, zl34, zI_neg, zI_add, zI_sub, zI_mul, zI_lt, zI_le, zI_eq, zI_ib, zI_ix, if_pos, if_neg, F_X11_answer, F_X11_refuse, F_X12_tells, F_X12_refused, if_true, if_false]
      · simp (disch := omega) only [m_isS0 u2, ↓reduceIte, and_self, true_and, and_true, false_and, and_false, Int.reduceEq, Int.reduceLT, Int.reduceLE, sw, Option.bind_some, zl0, zl1, zl2, zl3, zl4, zl5, zl6, zl7, zl8, zl9, zl10, zl20, zl21, zl28, zl33, zl34, zI_neg, zI_add, zI_sub, zI_mul, zI_lt, zI_le, zI_eq, zI_ib, zI_ix, if_pos, if_neg, F_X11_answer, F_X11_refuse, F_X12_tells, F_X12_refused, if_true, if_false]
    · refine q_fin h (w := zI 1) (by decide) (v := zI (-1)) ?_ ?_
      · simp (disch := omega) only [e, c_noS0 u1, show (shC 110).1 = 9 from by decide, ↓reduceIte, and_self, true_and, and_true, false_and, and_false, Int.reduceEq, Int.reduceLT, Int.reduceLE, sw, Option.bind_some, zl0, zl1, zl2, zl3, zl4, zl5, zl6, zl7, zl8, zl9, zl10, zl20, zl21, zl28, zl33, zl34, zI_neg, zI_add, zI_sub, zI_mul, zI_lt, zI_le, zI_eq, zI_ib, zI_ix, if_pos, if_neg, F_X11_answer, F_X11_refuse, F_X12_tells, F_X12_refused, if_true, if_false]
      · simp (disch := omega) only [m_isS0 u2, ↓reduceIte, and_self, true_and, and_true, false_and, and_false, Int.reduceEq, Int.reduceLT, Int.reduceLE, sw, Option.bind_some, zl0, zl1, zl2, zl3, zl4, zl5, zl6, zl7, zl8, zl9, zl10, zl20, zl21, zl28, zl33, zl34, zI_neg, zI_add, zI_sub, zI_mul, zI_lt, zI_le, zI_eq, zI_ib, zI_ix, if_pos, if_neg, F_X11_answer, F_X11_refuse, F_X12_tells, F_X12_refused, if_true, if_false]
  · have T := tC_t l4
    have h4 := g.1.2.1
    rcases (show ¬ (0 ≤ z ∧ z < n) ∨ ∃ s : Nat, z = s ∧ s < n from if q : 0 ≤ z ∧ z < n then Or.inr ⟨z.toNat, by omega, by omega⟩ else Or.inl q) with q | ⟨s, rfl, hs⟩
    · refine q_fin h (w := zI 1) (by decide) (v := zI (-1)) ?_ ?_
      · simp (disch := omega) only [l3, T.1, c_noS l1 l3 T.1 ht.1.1 h4, ↓reduceIte, and_self, true_and, and_true, false_and, and_false, Int.reduceEq, Int.reduceLT, Int.reduceLE, sw, Option.bind_some, zl0, zl1, zl2, zl3, zl4, zl5, zl6, zl7, zl8, zl9, zl10, zl20, zl21, zl28, zl33, zl34, zI_neg, zI_add, zI_sub, zI_mul, zI_lt, zI_le, zI_eq, zI_ib, zI_ix, if_pos, if_neg, F_X11_answer, F_X11_refuse, F_X12_tells, F_X12_refused, if_true, if_false]
      · simp (disch := omega) only [m_isS hm l2 h4, ↓reduceIte, and_self, true_and, and_true, false_and, and_false, Int.reduceEq, Int.reduceLT, Int.reduceLE, sw, Option.bind_some, zl0, zl1, zl2, zl3, zl4, zl5, zl6, zl7, zl8, zl9, zl10, zl20, zl21, zl28, zl33, zl34, zI_neg, zI_add, zI_sub, zI_mul, zI_lt, zI_le, zI_eq, zI_ib, zI_ix, if_pos, if_neg, F_X11_answer, F_X11_refuse, F_X12_tells, F_X12_refused, if_true, if_false]
    · rcases (show ¬ (0 ≤ w ∧ w ≤ 20) ∨ ∃ p : Nat, w = p ∧ p ≤ 20 from if q : 0 ≤ w ∧ w ≤ 20 then Or.inr ⟨w.toNat, by omega, by omega⟩ else Or.inl q) with q | ⟨p, rfl, hp⟩
      · refine q_fin h (w := zI 2) (by decide) (v := zI (-1)) ?_ ?_
        · simp (disch := omega) only [l3, T.1, c_noS l1 l3 T.1 ht.1.1 h4, c_noP, ↓reduceIte, and_self, true_and, and_true, false_and, and_false, Int.reduceEq, Int.reduceLT, Int.reduceLE, sw, Option.bind_some, zl0, zl1, zl2, zl3, zl4, zl5, zl6, zl7, zl8, zl9, zl10, zl20, zl21, zl28, zl33, zl34, zI_neg, zI_add, zI_sub, zI_mul, zI_lt, zI_le, zI_eq, zI_ib, zI_ix, if_pos, if_neg, F_X11_answer, F_X11_refuse, F_X12_tells, F_X12_refused, if_true, if_false]
        · simp (disch := omega) only [m_isS hm l2 h4, m_isP, ↓reduceIte, and_self, true_and, and_true, false_and, and_false, Int.reduceEq, Int.reduceLT, Int.reduceLE, sw, Option.bind_some, zl0, zl1, zl2, zl3, zl4, zl5, zl6, zl7, zl8, zl9, zl10, zl20, zl21, zl28, zl33, zl34, zI_neg, zI_add, zI_sub, zI_mul, zI_lt, zI_le, zI_eq, zI_ib, zI_ix, if_pos, if_neg, F_X11_answer, F_X11_refuse, F_X12_tells, F_X12_refused, if_true, if_false]
      · have e := t_bo ht s hs p hp
        refine q_fin h (w := zI 0) (by decide) (v := zI (bo μ s p)) ?_ ?_
        · simp (disch := omega) only [l3, T.1, T.2.1, c_noS l1 l3 T.1 ht.1.1 h4, c_noP, ↓reduceIte, and_self, true_and, and_true, false_and, and_false, Int.reduceEq, Int.reduceLT, Int.reduceLE, sw, Option.bind_some, zl0, zl1, zl2, zl3, zl4, zl5, zl6, zl7, zl8, zl9, zl10, zl20, zl21, zl28, zl33, zl34, zI_neg, zI_add, zI_sub, zI_mul, zI_lt, zI_le, zI_eq, zI_ib, zI_ix, if_pos, if_neg, F_X11_answer, F_X11_refuse, F_X12_tells, F_X12_refused, if_true, if_false]
          rw [show ((s : Int) * 21 + p).toNat = 21 * s + p by omega, e]
        · simp (disch := omega) only [m_isS hm l2 h4, m_isP, m_bought hm g.2.1 h4 hs, ↓reduceIte, and_self, true_and, and_true, false_and, and_false, Int.reduceEq, Int.reduceLT, Int.reduceLE, sw, Option.bind_some, zl0, zl1, zl2, zl3, zl4, zl5, zl6, zl7, zl8, zl9, zl10, zl20, zl21, zl28, zl33, zl34, zI_neg, zI_add, zI_sub, zI_mul, zI_lt, zI_le, zI_eq, zI_ib, zI_ix, if_pos, if_neg, F_X11_answer, F_X11_refuse, F_X12_tells, F_X12_refused, if_true, if_false]
theorem sp_profit : Sp_profit Inv := by
  intro σC σM i j h
  have h := Inv_0 h
  obtain ⟨z, hz1, hz2, rfl⟩ := zI_of i
  obtain ⟨w, hw1, hw2, rfl⟩ := zI_of j
  unfold F_X11_profit F_X12_profit F_X11_fromTable
  rw [sw]
  generalize si σM 0 0 0 = s1 at h ⊢
  rcases h.2.2.2 with ⟨u1, u2⟩ | ⟨n, nb, t, hd, ac, μ, un, ⟨⟨l1, l2, l3, l4⟩, ⟨g, g8, g9⟩, hm, ⟨hy, hyn⟩, ht, hb, hn, hk, hp, hi⟩, ca⟩
  · rcases h.1.2.2.1 with ⟨e, -⟩ | ⟨e, -⟩
    · refine q_fin h (w := zI 1) (by decide) (v := zI (-1)) ?_ ?_
      · simp (disch := omega) only [e, c_noS0 u1, show (shC 102).1 = 9 from by decide, ↓reduceIte, and_self, true_and, and_true, false_and, and_false, Int.reduceEq, Int.reduceLT, Int.reduceLE, sw, Option.bind_some, zl0, zl1, zl2, zl3, zl4, zl5, zl6, zl7, zl8, zl9, zl10, zl20, zl21, zl28, zl33, zl34, zI_neg, zI_add, zI_sub, zI_mul, zI_lt, zI_le, zI_eq, zI_ib, zI_ix, if_pos, if_neg, F_X11_answer, F_X11_refuse, F_X12_tells, F_X12_refused, if_true, if_false]
      · simp (disch := omega) only [m_isS0 u2, ↓reduceIte, and_self, true_and, and_true, false_and, and_false, Int.reduceEq, Int.reduceLT, Int.reduceLE, sw, Option.bind_some, zl0, zl1, zl2, zl3, zl4, zl5, zl6, zl7, zl8, zl9, zl10, zl20, zl21, zl28, zl33, zl34, zI_neg, zI_add, zI_sub, zI_mul, zI_lt, zI_le, zI_eq, zI_ib, zI_ix, if_pos, if_neg, F_X11_answer, F_X11_refuse, F_X12_tells, F_X12_refused, if_true, if_false]
    · refine q_fin h (w := zI 1) (by decide) (v := zI (-1)) ?_ ?_
      · simp (disch := omega) only [e, c_noS0 u1, show (shC 110).1 = 9 from by decide, ↓reduceIte, and_self, true_and, and_true, false_and, and_false, Int.reduceEq, Int.reduceLT, Int.reduceLE, sw, Option.bind_some, zl0, zl1, zl2, zl3, zl4, zl5, zl6, zl7, zl8, zl9, zl10, zl20, zl21, zl28, zl33, zl34, zI_neg, zI_add, zI_sub, zI_mul, zI_lt, zI_le, zI_eq, zI_ib, zI_ix, if_pos, if_neg, F_X11_answer, F_X11_refuse, F_X12_tells, F_X12_refused, if_true, if_false]
      · simp (disch := omega) only [m_isS0 u2, ↓reduceIte, and_self, true_and, and_true, false_and, and_false, Int.reduceEq, Int.reduceLT, Int.reduceLE, sw, Option.bind_some, zl0, zl1, zl2, zl3, zl4, zl5, zl6, zl7, zl8, zl9, zl10, zl20, zl21, zl28, zl33, zl34, zI_neg, zI_add, zI_sub, zI_mul, zI_lt, zI_le, zI_eq, zI_ib, zI_ix, if_pos, if_neg, F_X11_answer, F_X11_refuse, F_X12_tells, F_X12_refused, if_true, if_false]
  · have T := tC_t l4
    have h4 := g.1.2.1
    rcases (show ¬ (0 ≤ z ∧ z < n) ∨ ∃ s : Nat, z = s ∧ s < n from if q : 0 ≤ z ∧ z < n then Or.inr ⟨z.toNat, by omega, by omega⟩ else Or.inl q) with q | ⟨s, rfl, hs⟩
    · refine q_fin h (w := zI 1) (by decide) (v := zI (-1)) ?_ ?_
      · simp (disch := omega) only [l3, T.1, c_noS l1 l3 T.1 ht.1.1 h4, ↓reduceIte, and_self, true_and, and_true, false_and, and_false, Int.reduceEq, Int.reduceLT, Int.reduceLE, sw, Option.bind_some, zl0, zl1, zl2, zl3, zl4, zl5, zl6, zl7, zl8, zl9, zl10, zl20, zl21, zl28, zl33, zl34, zI_neg, zI_add, zI_sub, zI_mul, zI_lt, zI_le, zI_eq, zI_ib, zI_ix, if_pos, if_neg, F_X11_answer, F_X11_refuse, F_X12_tells, F_X12_refused, if_true, if_false]
      · simp (disch := omega) only [m_isS hm l2 h4, ↓reduceIte, and_self, true_and, and_true, false_and, and_false, Int.reduceEq, Int.reduceLT, Int.reduceLE, sw, Option.bind_some, zl0, zl1, zl2, zl3, zl4, zl5, zl6, zl7, zl8, zl9, zl10, zl20, zl21, zl28, zl33, zl34, zI_neg, zI_add, zI_sub, zI_mul, zI_lt, zI_le, zI_eq, zI_ib, zI_ix, if_pos, if_neg, F_X11_answer, F_X11_refuse, F_X12_tells, F_X12_refused, if_true, if_false]
    · rcases (show ¬ (0 ≤ w ∧ w ≤ 20) ∨ ∃ p : Nat, w = p ∧ p ≤ 20 from if q : 0 ≤ w ∧ w ≤ 20 then Or.inr ⟨w.toNat, by omega, by omega⟩ else Or.inl q) with q | ⟨p, rfl, hp⟩
      · refine q_fin h (w := zI 2) (by decide) (v := zI (-1)) ?_ ?_
        · simp (disch := omega) only [l3, T.1, c_noS l1 l3 T.1 ht.1.1 h4, c_noP, ↓reduceIte, and_self, true_and, and_true, false_and, and_false, Int.reduceEq, Int.reduceLT, Int.reduceLE, sw, Option.bind_some, zl0, zl1, zl2, zl3, zl4, zl5, zl6, zl7, zl8, zl9, zl10, zl20, zl21, zl28, zl33, zl34, zI_neg, zI_add, zI_sub, zI_mul, zI_lt, zI_le, zI_eq, zI_ib, zI_ix, if_pos, if_neg, F_X11_answer, F_X11_refuse, F_X12_tells, F_X12_refused, if_true, if_false]
        · simp (disch := omega) only [m_isS hm l2 h4, m_isP, ↓reduceIte, and_self, true_and, and_true, false_and, and_false, Int.reduceEq, Int.reduceLT, Int.reduceLE, sw, Option.bind_some, zl0, zl1, zl2, zl3, zl4, zl5, zl6, zl7, zl8, zl9, zl10, zl20, zl21, zl28, zl33, zl34, zI_neg, zI_add, zI_sub, zI_mul, zI_lt, zI_le, zI_eq, zI_ib, zI_ix, if_pos, if_neg, F_X11_answer, F_X11_refuse, F_X12_tells, F_X12_refused, if_true, if_false]
      · have e := t_pr ht s hs p hp
        refine q_fin h (w := zI 0) (by decide) (v := zI (pr μ s p)) ?_ ?_
        · simp (disch := omega) only [l3, T.1, T.2.2.1, c_noS l1 l3 T.1 ht.1.1 h4, c_noP, ↓reduceIte, and_self, true_and, and_true, false_and, and_false, Int.reduceEq, Int.reduceLT, Int.reduceLE, sw, Option.bind_some, zl0, zl1, zl2, zl3, zl4, zl5, zl6, zl7, zl8, zl9, zl10, zl20, zl21, zl28, zl33, zl34, zI_neg, zI_add, zI_sub, zI_mul, zI_lt, zI_le, zI_eq, zI_ib, zI_ix, if_pos, if_neg, F_X11_answer, F_X11_refuse, F_X12_tells, F_X12_refused, if_true, if_false]
          rw [show ((s : Int) * 21 + p).toNat = 21 * s + p by omega, e]
        · simp (disch := omega) only [m_isS hm l2 h4, m_isP, m_profit hm g.2.1 h4 hs, ↓reduceIte, and_self, true_and, and_true, false_and, and_false, Int.reduceEq, Int.reduceLT, Int.reduceLE, sw, Option.bind_some, zl0, zl1, zl2, zl3, zl4, zl5, zl6, zl7, zl8, zl9, zl10, zl20, zl21, zl28, zl33, zl34, zI_neg, zI_add, zI_sub, zI_mul, zI_lt, zI_le, zI_eq, zI_ib, zI_ix, if_pos, if_neg, F_X11_answer, F_X11_refuse, F_X12_tells, F_X12_refused, if_true, if_false]
theorem sp_good : Sp_good Inv := by
  intro σC σM i j h
  have h := Inv_0 h
  obtain ⟨z, hz1, hz2, rfl⟩ := zI_of i
  obtain ⟨w, hw1, hw2, rfl⟩ := zI_of j
  unfold F_X11_good F_X12_good F_X11_fromTable
  rw [sw]
  generalize si σM 0 0 0 = s1 at h ⊢
  rcases h.2.2.2 with ⟨u1, u2⟩ | ⟨n, nb, t, hd, ac, μ, un, ⟨⟨l1, l2, l3, l4⟩, ⟨g, g8, g9⟩, hm, ⟨hy, hyn⟩, ht, hb, hn, hk, hp, hi⟩, ca⟩
  · rcases h.1.2.2.1 with ⟨e, -⟩ | ⟨e, -⟩
    · refine q_fin h (w := zI 1) (by decide) (v := zI (-1)) ?_ ?_
      · simp (disch := omega) only [e, c_noS0 u1, show (shC 102).1 = 9 from by decide, ↓reduceIte, and_self, true_and, and_true, false_and, and_false, Int.reduceEq, Int.reduceLT, Int.reduceLE, sw, Option.bind_some, zl0, zl1, zl2, zl3, zl4, zl5, zl6, zl7, zl8, zl9, zl10, zl20, zl21, zl28, zl33, zl34, zI_neg, zI_add, zI_sub, zI_mul, zI_lt, zI_le, zI_eq, zI_ib, zI_ix, if_pos, if_neg, F_X11_answer, F_X11_refuse, F_X12_tells, F_X12_refused, if_true, if_false]
      · simp (disch := omega) only [m_isS0 u2, ↓reduceIte, and_self, true_and, and_true, false_and, and_false, Int.reduceEq, Int.reduceLT, Int.reduceLE, sw, Option.bind_some, zl0, zl1, zl2, zl3, zl4, zl5, zl6, zl7, zl8, zl9, zl10, zl20, zl21, zl28, zl33, zl34, zI_neg, zI_add, zI_sub, zI_mul, zI_lt, zI_le, zI_eq, zI_ib, zI_ix, if_pos, if_neg, F_X11_answer, F_X11_refuse, F_X12_tells, F_X12_refused, if_true, if_false]
    · refine q_fin h (w := zI 1) (by decide) (v := zI (-1)) ?_ ?_
      · simp (disch := omega) only [e, c_noS0 u1, show (shC 110).1 = 9 from by decide, ↓reduceIte, and_self, true_and, and_true, false_and, and_false, Int.reduceEq, Int.reduceLT, Int.reduceLE, sw, Option.bind_some, zl0, zl1, zl2, zl3, zl4, zl5, zl6, zl7, zl8, zl9, zl10, zl20, zl21, zl28, zl33, zl34, zI_neg, zI_add, zI_sub, zI_mul, zI_lt, zI_le, zI_eq, zI_ib, zI_ix, if_pos, if_neg, F_X11_answer, F_X11_refuse, F_X12_tells, F_X12_refused, if_true, if_false]
      · simp (disch := omega) only [m_isS0 u2, ↓reduceIte, and_self, true_and, and_true, false_and, and_false, Int.reduceEq, Int.reduceLT, Int.reduceLE, sw, Option.bind_some, zl0, zl1, zl2, zl3, zl4, zl5, zl6, zl7, zl8, zl9, zl10, zl20, zl21, zl28, zl33, zl34, zI_neg, zI_add, zI_sub, zI_mul, zI_lt, zI_le, zI_eq, zI_ib, zI_ix, if_pos, if_neg, F_X11_answer, F_X11_refuse, F_X12_tells, F_X12_refused, if_true, if_false]
  · have T := tC_t l4
    have h4 := g.1.2.1
    rcases (show ¬ (0 ≤ z ∧ z < n) ∨ ∃ s : Nat, z = s ∧ s < n from if q : 0 ≤ z ∧ z < n then Or.inr ⟨z.toNat, by omega, by omega⟩ else Or.inl q) with q | ⟨s, rfl, hs⟩
    · refine q_fin h (w := zI 1) (by decide) (v := zI (-1)) ?_ ?_
      · simp (disch := omega) only [l3, T.1, c_noS l1 l3 T.1 ht.1.1 h4, ↓reduceIte, and_self, true_and, and_true, false_and, and_false, Int.reduceEq, Int.reduceLT, Int.reduceLE, sw, Option.bind_some, zl0, zl1, zl2, zl3, zl4, zl5, zl6, zl7, zl8, zl9, zl10, zl20, zl21, zl28, zl33, zl34, zI_neg, zI_add, zI_sub, zI_mul, zI_lt, zI_le, zI_eq, zI_ib, zI_ix, if_pos, if_neg, F_X11_answer, F_X11_refuse, F_X12_tells, F_X12_refused, if_true, if_false]
      · simp (disch := omega) only [m_isS hm l2 h4, ↓reduceIte, and_self, true_and, and_true, false_and, and_false, Int.reduceEq, Int.reduceLT, Int.reduceLE, sw, Option.bind_some, zl0, zl1, zl2, zl3, zl4, zl5, zl6, zl7, zl8, zl9, zl10, zl20, zl21, zl28, zl33, zl34, zI_neg, zI_add, zI_sub, zI_mul, zI_lt, zI_le, zI_eq, zI_ib, zI_ix, if_pos, if_neg, F_X11_answer, F_X11_refuse, F_X12_tells, F_X12_refused, if_true, if_false]
    · rcases (show ¬ (0 ≤ w ∧ w ≤ 20) ∨ ∃ p : Nat, w = p ∧ p ≤ 20 from if q : 0 ≤ w ∧ w ≤ 20 then Or.inr ⟨w.toNat, by omega, by omega⟩ else Or.inl q) with q | ⟨p, rfl, hp⟩
      · refine q_fin h (w := zI 2) (by decide) (v := zI (-1)) ?_ ?_
        · simp (disch := omega) only [l3, T.1, c_noS l1 l3 T.1 ht.1.1 h4, c_noP, ↓reduceIte, and_self, true_and, and_true, false_and, and_false, Int.reduceEq, Int.reduceLT, Int.reduceLE, sw, Option.bind_some, zl0, zl1, zl2, zl3, zl4, zl5, zl6, zl7, zl8, zl9, zl10, zl20, zl21, zl28, zl33, zl34, zI_neg, zI_add, zI_sub, zI_mul, zI_lt, zI_le, zI_eq, zI_ib, zI_ix, if_pos, if_neg, F_X11_answer, F_X11_refuse, F_X12_tells, F_X12_refused, if_true, if_false]
        · simp (disch := omega) only [m_isS hm l2 h4, m_isP, ↓reduceIte, and_self, true_and, and_true, false_and, and_false, Int.reduceEq, Int.reduceLT, Int.reduceLE, sw, Option.bind_some, zl0, zl1, zl2, zl3, zl4, zl5, zl6, zl7, zl8, zl9, zl10, zl20, zl21, zl28, zl33, zl34, zI_neg, zI_add, zI_sub, zI_mul, zI_lt, zI_le, zI_eq, zI_ib, zI_ix, if_pos, if_neg, F_X11_answer, F_X11_refuse, F_X12_tells, F_X12_refused, if_true, if_false]
      · have e := t_go ht s hs p hp
        refine q_fin h (w := zI 0) (by decide) (v := zI (go μ s p)) ?_ ?_
        · simp (disch := omega) only [l3, T.1, T.2.2.2, c_noS l1 l3 T.1 ht.1.1 h4, c_noP, ↓reduceIte, and_self, true_and, and_true, false_and, and_false, Int.reduceEq, Int.reduceLT, Int.reduceLE, sw, Option.bind_some, zl0, zl1, zl2, zl3, zl4, zl5, zl6, zl7, zl8, zl9, zl10, zl20, zl21, zl28, zl33, zl34, zI_neg, zI_add, zI_sub, zI_mul, zI_lt, zI_le, zI_eq, zI_ib, zI_ix, if_pos, if_neg, F_X11_answer, F_X11_refuse, F_X12_tells, F_X12_refused, if_true, if_false]
          rw [show ((s : Int) * 21 + p).toNat = 21 * s + p by omega, e]
        · simp (disch := omega) only [m_isS hm l2 h4, m_isP, m_good hm g.2.1 h4 hs, ↓reduceIte, and_self, true_and, and_true, false_and, and_false, Int.reduceEq, Int.reduceLT, Int.reduceLE, sw, Option.bind_some, zl0, zl1, zl2, zl3, zl4, zl5, zl6, zl7, zl8, zl9, zl10, zl20, zl21, zl28, zl33, zl34, zI_neg, zI_add, zI_sub, zI_mul, zI_lt, zI_le, zI_eq, zI_ib, zI_ix, if_pos, if_neg, F_X11_answer, F_X11_refuse, F_X12_tells, F_X12_refused, if_true, if_false]
theorem m_about {σ : Sto} {μ : Nat → Int} {n c : Nat} (h : MS σ μ n) (g : Gd μ n c) (i : Int32) : F_X12_about_22 FU σ i 0 0 = F_X12_about_22 1 σ i (zI (wsm μ n)) (zI n) := by
  have h4 := g.1.2.1
  refine sum_loop (L := fun k a j => F_X12_about_22 k σ i a j) (R := fun z => F_X12_about_22 1 σ i (zI z) (zI n)) (f := fun s => we μ s) (fun k acc s hs _ => ?_) (fun k => ?_) FU (FU_lt (by omega))
  · rw [F_X12_about_22, h.2]
    rw [if_neg (show ¬ zI n ≤ zI s from by rw [zI_le (by omega) (by omega) (by omega) (by omega)]; omega), m_weight h g hs, Option.bind_some, zl1, zI_add, zI_add]
  · rw [F_X12_about_22, F_X12_about_22, h.2]
    simp only [Int32.le_refl, if_true]
theorem sp_about : Sp_about Inv := by
  intro σC σM i h
  have h := Inv_0 h
  obtain ⟨z, hz1, hz2, rfl⟩ := zI_of i
  unfold F_X11_about F_X12_about F_X11_about_222
  rw [sw]
  generalize si σM 0 0 0 = s1 at h ⊢
  rcases h.2.2.2 with ⟨u1, u2⟩ | ⟨n, nb, t, hd, ac, μ, un, ⟨⟨l1, l2, l3, l4⟩, ⟨g, g8, g9⟩, hm, ⟨hy, hyn⟩, ht, hb, hn, hk, hp, hi⟩, ca⟩
  · refine q_fin h (w := zI 1) (by decide) (v := zI (-1)) ?_ ?_
    · rw [if_pos u1]
      simp (disch := omega) only [↓reduceIte, and_self, true_and, and_true, false_and, and_false, Int.reduceEq, Int.reduceLT, Int.reduceLE, sw, Option.bind_some, zl0, zl1, zl2, zl3, zl4, zl5, zl6, zl7, zl8, zl9, zl10, zl20, zl21, zl28, zl33, zl34, zI_neg, zI_add, zI_sub, zI_mul, zI_lt, zI_le, zI_eq, zI_ib, zI_ix, if_pos, if_neg, F_X11_answer, F_X11_refuse, F_X12_tells, F_X12_refused, if_true, if_false]
    · rw [if_pos u2]
      simp (disch := omega) only [↓reduceIte, and_self, true_and, and_true, false_and, and_false, Int.reduceEq, Int.reduceLT, Int.reduceLE, sw, Option.bind_some, zl0, zl1, zl2, zl3, zl4, zl5, zl6, zl7, zl8, zl9, zl10, zl20, zl21, zl28, zl33, zl34, zI_neg, zI_add, zI_sub, zI_mul, zI_lt, zI_le, zI_eq, zI_ib, zI_ix, if_pos, if_neg, F_X11_answer, F_X11_refuse, F_X12_tells, F_X12_refused, if_true, if_false]
  · have T := tC_t l4
    have h4 := g.1.2.1
    rw [if_neg (show ¬ σC.1 0 13 = 0 by rw [l1]; decide), if_neg (show ¬ s1.1 0 25 = 0 by rw [l2]; decide), m_about hm g, F_X12_about_22, hm.2, if_pos (Int32.le_refl _), F_X12_about_193, F_X12_about_193]
    rcases (show z = 0 ∨ z = 1 ∨ z = 2 ∨ z = 3 ∨ z = 4 ∨ z = 5 ∨ z = 6 ∨ z = 7 ∨ z = 8 ∨ z = 9 ∨ z = 10 ∨ z = 11 ∨ ¬ (0 ≤ z ∧ z ≤ 11) by omega) with rfl | rfl | rfl | rfl | rfl | rfl | rfl | rfl | rfl | rfl | rfl | rfl | q
    · refine q_fin h (w := zI 0) (by decide) (v := zI n) ?_ ?_
      · simp (disch := omega) only [l3, zl11, T.1, ht.1.1, ↓reduceIte, and_self, true_and, and_true, false_and, and_false, Int.reduceEq, Int.reduceLT, Int.reduceLE, sw, Option.bind_some, zl0, zl1, zl2, zl3, zl4, zl5, zl6, zl7, zl8, zl9, zl10, zl20, zl21, zl28, zl33, zl34, zI_neg, zI_add, zI_sub, zI_mul, zI_lt, zI_le, zI_eq, zI_ib, zI_ix, if_pos, if_neg, F_X11_answer, F_X11_refuse, F_X12_tells, F_X12_refused, if_true, if_false]
      · simp (disch := omega) only [zl11, ↓reduceIte, and_self, true_and, and_true, false_and, and_false, Int.reduceEq, Int.reduceLT, Int.reduceLE, sw, Option.bind_some, zl0, zl1, zl2, zl3, zl4, zl5, zl6, zl7, zl8, zl9, zl10, zl20, zl21, zl28, zl33, zl34, zI_neg, zI_add, zI_sub, zI_mul, zI_lt, zI_le, zI_eq, zI_ib, zI_ix, if_pos, if_neg, F_X11_answer, F_X11_refuse, F_X12_tells, F_X12_refused, if_true, if_false]
    · refine q_fin h (w := zI 0) (by decide) (v := zI (μ 32)) ?_ ?_
      · simp (disch := omega) only [l3, zl11, hyn, ↓reduceIte, and_self, true_and, and_true, false_and, and_false, Int.reduceEq, Int.reduceLT, Int.reduceLE, sw, Option.bind_some, zl0, zl1, zl2, zl3, zl4, zl5, zl6, zl7, zl8, zl9, zl10, zl20, zl21, zl28, zl33, zl34, zI_neg, zI_add, zI_sub, zI_mul, zI_lt, zI_le, zI_eq, zI_ib, zI_ix, if_pos, if_neg, F_X11_answer, F_X11_refuse, F_X12_tells, F_X12_refused, if_true, if_false]
      · simp (disch := omega) only [zl11, show ix 32 = 32 from by decide, hm.1 32 (by omega), ↓reduceIte, and_self, true_and, and_true, false_and, and_false, Int.reduceEq, Int.reduceLT, Int.reduceLE, sw, Option.bind_some, zl0, zl1, zl2, zl3, zl4, zl5, zl6, zl7, zl8, zl9, zl10, zl20, zl21, zl28, zl33, zl34, zI_neg, zI_add, zI_sub, zI_mul, zI_lt, zI_le, zI_eq, zI_ib, zI_ix, if_pos, if_neg, F_X11_answer, F_X11_refuse, F_X12_tells, F_X12_refused, if_true, if_false]
    · refine q_fin h (w := zI 0) (by decide) (v := zI (ra μ)) ?_ ?_
      · simp (disch := omega) only [l3, zl11, y_rate yC_3 hy, ↓reduceIte, and_self, true_and, and_true, false_and, and_false, Int.reduceEq, Int.reduceLT, Int.reduceLE, sw, Option.bind_some, zl0, zl1, zl2, zl3, zl4, zl5, zl6, zl7, zl8, zl9, zl10, zl20, zl21, zl28, zl33, zl34, zI_neg, zI_add, zI_sub, zI_mul, zI_lt, zI_le, zI_eq, zI_ib, zI_ix, if_pos, if_neg, F_X11_answer, F_X11_refuse, F_X12_tells, F_X12_refused, if_true, if_false]
      · simp (disch := omega) only [zl11, m_rate hm, ↓reduceIte, and_self, true_and, and_true, false_and, and_false, Int.reduceEq, Int.reduceLT, Int.reduceLE, sw, Option.bind_some, zl0, zl1, zl2, zl3, zl4, zl5, zl6, zl7, zl8, zl9, zl10, zl20, zl21, zl28, zl33, zl34, zI_neg, zI_add, zI_sub, zI_mul, zI_lt, zI_le, zI_eq, zI_ib, zI_ix, if_pos, if_neg, F_X11_answer, F_X11_refuse, F_X12_tells, F_X12_refused, if_true, if_false]
    · refine q_fin h (w := zI 0) (by decide) (v := zI (wsm μ n)) ?_ ?_
      · simp (disch := omega) only [l3, zl11, y_weights yC_3 T hy ht g, ↓reduceIte, and_self, true_and, and_true, false_and, and_false, Int.reduceEq, Int.reduceLT, Int.reduceLE, sw, Option.bind_some, zl0, zl1, zl2, zl3, zl4, zl5, zl6, zl7, zl8, zl9, zl10, zl20, zl21, zl28, zl33, zl34, zI_neg, zI_add, zI_sub, zI_mul, zI_lt, zI_le, zI_eq, zI_ib, zI_ix, if_pos, if_neg, F_X11_answer, F_X11_refuse, F_X12_tells, F_X12_refused, if_true, if_false]
      · simp (disch := omega) only [zl11, ↓reduceIte, and_self, true_and, and_true, false_and, and_false, Int.reduceEq, Int.reduceLT, Int.reduceLE, sw, Option.bind_some, zl0, zl1, zl2, zl3, zl4, zl5, zl6, zl7, zl8, zl9, zl10, zl20, zl21, zl28, zl33, zl34, zI_neg, zI_add, zI_sub, zI_mul, zI_lt, zI_le, zI_eq, zI_ib, zI_ix, if_pos, if_neg, F_X11_answer, F_X11_refuse, F_X12_tells, F_X12_refused, if_true, if_false]
    · refine q_fin h (w := zI 0) (by decide) (v := zI (ba μ n)) ?_ ?_
      · simp (disch := omega) only [l3, zl11, T.1, y_base yC_3 T hy ht g, ↓reduceIte, and_self, true_and, and_true, false_and, and_false, Int.reduceEq, Int.reduceLT, Int.reduceLE, sw, Option.bind_some, zl0, zl1, zl2, zl3, zl4, zl5, zl6, zl7, zl8, zl9, zl10, zl20, zl21, zl28, zl33, zl34, zI_neg, zI_add, zI_sub, zI_mul, zI_lt, zI_le, zI_eq, zI_ib, zI_ix, if_pos, if_neg, F_X11_answer, F_X11_refuse, F_X12_tells, F_X12_refused, if_true, if_false]
      · simp (disch := omega) only [zl11, m_base hm g, ↓reduceIte, and_self, true_and, and_true, false_and, and_false, Int.reduceEq, Int.reduceLT, Int.reduceLE, sw, Option.bind_some, zl0, zl1, zl2, zl3, zl4, zl5, zl6, zl7, zl8, zl9, zl10, zl20, zl21, zl28, zl33, zl34, zI_neg, zI_add, zI_sub, zI_mul, zI_lt, zI_le, zI_eq, zI_ib, zI_ix, if_pos, if_neg, F_X11_answer, F_X11_refuse, F_X12_tells, F_X12_refused, if_true, if_false]
    · refine q_fin h (w := zI 0) (by decide) (v := zI (du μ n)) ?_ ?_
      · simp (disch := omega) only [l3, zl11, y_dues yC_3 T hy ht.1 g, ↓reduceIte, and_self, true_and, and_true, false_and, and_false, Int.reduceEq, Int.reduceLT, Int.reduceLE, sw, Option.bind_some, zl0, zl1, zl2, zl3, zl4, zl5, zl6, zl7, zl8, zl9, zl10, zl20, zl21, zl28, zl33, zl34, zI_neg, zI_add, zI_sub, zI_mul, zI_lt, zI_le, zI_eq, zI_ib, zI_ix, if_pos, if_neg, F_X11_answer, F_X11_refuse, F_X12_tells, F_X12_refused, if_true, if_false]
      · simp (disch := omega) only [zl11, m_dues hm g, ↓reduceIte, and_self, true_and, and_true, false_and, and_false, Int.reduceEq, Int.reduceLT, Int.reduceLE, sw, Option.bind_some, zl0, zl1, zl2, zl3, zl4, zl5, zl6, zl7, zl8, zl9, zl10, zl20, zl21, zl28, zl33, zl34, zI_neg, zI_add, zI_sub, zI_mul, zI_lt, zI_le, zI_eq, zI_ib, zI_ix, if_pos, if_neg, F_X11_answer, F_X11_refuse, F_X12_tells, F_X12_refused, if_true, if_false]
    · refine q_fin h (w := zI 0) (by decide) (v := zI (al μ n)) ?_ ?_
      · simp (disch := omega) only [l3, zl11, y_allowed yC_3 T hy ht g, ↓reduceIte, and_self, true_and, and_true, false_and, and_false, Int.reduceEq, Int.reduceLT, Int.reduceLE, sw, Option.bind_some, zl0, zl1, zl2, zl3, zl4, zl5, zl6, zl7, zl8, zl9, zl10, zl20, zl21, zl28, zl33, zl34, zI_neg, zI_add, zI_sub, zI_mul, zI_lt, zI_le, zI_eq, zI_ib, zI_ix, if_pos, if_neg, F_X11_answer, F_X11_refuse, F_X12_tells, F_X12_refused, if_true, if_false]
      · simp (disch := omega) only [zl11, m_allowed hm g, ↓reduceIte, and_self, true_and, and_true, false_and, and_false, Int.reduceEq, Int.reduceLT, Int.reduceLE, sw, Option.bind_some, zl0, zl1, zl2, zl3, zl4, zl5, zl6, zl7, zl8, zl9, zl10, zl20, zl21, zl28, zl33, zl34, zI_neg, zI_add, zI_sub, zI_mul, zI_lt, zI_le, zI_eq, zI_ib, zI_ix, if_pos, if_neg, F_X11_answer, F_X11_refuse, F_X12_tells, F_X12_refused, if_true, if_false]
    · refine q_fin h (w := zI 0) (by decide) (v := zI (sp μ n)) ?_ ?_
      · simp (disch := omega) only [l3, zl11, y_spent yC_3 T hy ht g, ↓reduceIte, and_self, true_and, and_true, false_and, and_false, Int.reduceEq, Int.reduceLT, Int.reduceLE, sw, Option.bind_some, zl0, zl1, zl2, zl3, zl4, zl5, zl6, zl7, zl8, zl9, zl10, zl20, zl21, zl28, zl33, zl34, zI_neg, zI_add, zI_sub, zI_mul, zI_lt, zI_le, zI_eq, zI_ib, zI_ix, if_pos, if_neg, F_X11_answer, F_X11_refuse, F_X12_tells, F_X12_refused, if_true, if_false]
      · simp (disch := omega) only [zl11, m_spent hm g, ↓reduceIte, and_self, true_and, and_true, false_and, and_false, Int.reduceEq, Int.reduceLT, Int.reduceLE, sw, Option.bind_some, zl0, zl1, zl2, zl3, zl4, zl5, zl6, zl7, zl8, zl9, zl10, zl20, zl21, zl28, zl33, zl34, zI_neg, zI_add, zI_sub, zI_mul, zI_lt, zI_le, zI_eq, zI_ib, zI_ix, if_pos, if_neg, F_X11_answer, F_X11_refuse, F_X12_tells, F_X12_refused, if_true, if_false]
    · by_cases q : sp μ n ≤ al μ n
      · refine q_fin h (w := zI 0) (by decide) (v := zI 1) ?_ ?_
        · simp (disch := omega) only [l3, y_isKept yC_3 T hy ht g, ↓reduceIte, and_self, true_and, and_true, false_and, and_false, Int.reduceEq, Int.reduceLT, Int.reduceLE, sw, Option.bind_some, zl0, zl1, zl2, zl3, zl4, zl5, zl6, zl7, zl8, zl9, zl10, zl20, zl21, zl28, zl33, zl34, zI_neg, zI_add, zI_sub, zI_mul, zI_lt, zI_le, zI_eq, zI_ib, zI_ix, if_pos, if_neg, F_X11_answer, F_X11_refuse, F_X12_tells, F_X12_refused, if_true, if_false]
        · simp (disch := omega) only [m_isKept hm g, ↓reduceIte, and_self, true_and, and_true, false_and, and_false, Int.reduceEq, Int.reduceLT, Int.reduceLE, sw, Option.bind_some, zl0, zl1, zl2, zl3, zl4, zl5, zl6, zl7, zl8, zl9, zl10, zl20, zl21, zl28, zl33, zl34, zI_neg, zI_add, zI_sub, zI_mul, zI_lt, zI_le, zI_eq, zI_ib, zI_ix, if_pos, if_neg, F_X11_answer, F_X11_refuse, F_X12_tells, F_X12_refused, if_true, if_false]
      · refine q_fin h (w := zI 0) (by decide) (v := zI 0) ?_ ?_
        · simp (disch := omega) only [l3, y_isKept yC_3 T hy ht g, ↓reduceIte, and_self, true_and, and_true, false_and, and_false, Int.reduceEq, Int.reduceLT, Int.reduceLE, sw, Option.bind_some, zl0, zl1, zl2, zl3, zl4, zl5, zl6, zl7, zl8, zl9, zl10, zl20, zl21, zl28, zl33, zl34, zI_neg, zI_add, zI_sub, zI_mul, zI_lt, zI_le, zI_eq, zI_ib, zI_ix, if_pos, if_neg, F_X11_answer, F_X11_refuse, F_X12_tells, F_X12_refused, if_true, if_false]
        · simp (disch := omega) only [m_isKept hm g, ↓reduceIte, and_self, true_and, and_true, false_and, and_false, Int.reduceEq, Int.reduceLT, Int.reduceLE, sw, Option.bind_some, zl0, zl1, zl2, zl3, zl4, zl5, zl6, zl7, zl8, zl9, zl10, zl20, zl21, zl28, zl33, zl34, zI_neg, zI_add, zI_sub, zI_mul, zI_lt, zI_le, zI_eq, zI_ib, zI_ix, if_pos, if_neg, F_X11_answer, F_X11_refuse, F_X12_tells, F_X12_refused, if_true, if_false]
    · refine q_fin h (w := zI 0) (by decide) (v := zI ac) ?_ ?_
      · simp (disch := omega) only [l3, zl11, hp.2.2.2.1, ↓reduceIte, and_self, true_and, and_true, false_and, and_false, Int.reduceEq, Int.reduceLT, Int.reduceLE, sw, Option.bind_some, zl0, zl1, zl2, zl3, zl4, zl5, zl6, zl7, zl8, zl9, zl10, zl20, zl21, zl28, zl33, zl34, zI_neg, zI_add, zI_sub, zI_mul, zI_lt, zI_le, zI_eq, zI_ib, zI_ix, if_pos, if_neg, F_X11_answer, F_X11_refuse, F_X12_tells, F_X12_refused, if_true, if_false]
      · simp (disch := omega) only [zl11, hp.2.2.2.2.1, ↓reduceIte, and_self, true_and, and_true, false_and, and_false, Int.reduceEq, Int.reduceLT, Int.reduceLE, sw, Option.bind_some, zl0, zl1, zl2, zl3, zl4, zl5, zl6, zl7, zl8, zl9, zl10, zl20, zl21, zl28, zl33, zl34, zI_neg, zI_add, zI_sub, zI_mul, zI_lt, zI_le, zI_eq, zI_ib, zI_ix, if_pos, if_neg, F_X11_answer, F_X11_refuse, F_X12_tells, F_X12_refused, if_true, if_false]
    · refine q_fin h (w := zI 0) (by decide) (v := zI (of1 μ n 0)) ?_ ?_
      · simp (disch := omega) only [l3, zl11, T.1, y_off0 yC_3 T hy ht.1 g, ↓reduceIte, and_self, true_and, and_true, false_and, and_false, Int.reduceEq, Int.reduceLT, Int.reduceLE, sw, Option.bind_some, zl0, zl1, zl2, zl3, zl4, zl5, zl6, zl7, zl8, zl9, zl10, zl20, zl21, zl28, zl33, zl34, zI_neg, zI_add, zI_sub, zI_mul, zI_lt, zI_le, zI_eq, zI_ib, zI_ix, if_pos, if_neg, F_X11_answer, F_X11_refuse, F_X12_tells, F_X12_refused, if_true, if_false]
      · simp (disch := omega) only [zl11, mf0 hm g, ↓reduceIte, and_self, true_and, and_true, false_and, and_false, Int.reduceEq, Int.reduceLT, Int.reduceLE, sw, Option.bind_some, zl0, zl1, zl2, zl3, zl4, zl5, zl6, zl7, zl8, zl9, zl10, zl20, zl21, zl28, zl33, zl34, zI_neg, zI_add, zI_sub, zI_mul, zI_lt, zI_le, zI_eq, zI_ib, zI_ix, if_pos, if_neg, F_X11_answer, F_X11_refuse, F_X12_tells, F_X12_refused, if_true, if_false]
    · refine q_fin h (w := zI 0) (by decide) (v := zI (of1 μ n 1)) ?_ ?_
      · simp (disch := omega) only [l3, zl11, T.1, y_off1 yC_3 T hy ht.1 g, ↓reduceIte, and_self, true_and, and_true, false_and, and_false, Int.reduceEq, Int.reduceLT, Int.reduceLE, sw, Option.bind_some, zl0, zl1, zl2, zl3, zl4, zl5, zl6, zl7, zl8, zl9, zl10, zl20, zl21, zl28, zl33, zl34, zI_neg, zI_add, zI_sub, zI_mul, zI_lt, zI_le, zI_eq, zI_ib, zI_ix, if_pos, if_neg, F_X11_answer, F_X11_refuse, F_X12_tells, F_X12_refused, if_true, if_false]
      · simp (disch := omega) only [zl11, mf1 hm g, ↓reduceIte, and_self, true_and, and_true, false_and, and_false, Int.reduceEq, Int.reduceLT, Int.reduceLE, sw, Option.bind_some, zl0, zl1, zl2, zl3, zl4, zl5, zl6, zl7, zl8, zl9, zl10, zl20, zl21, zl28, zl33, zl34, zI_neg, zI_add, zI_sub, zI_mul, zI_lt, zI_le, zI_eq, zI_ib, zI_ix, if_pos, if_neg, F_X11_answer, F_X11_refuse, F_X12_tells, F_X12_refused, if_true, if_false]
    · refine q_fin h (w := zI 1) (by decide) (v := zI (-1)) ?_ ?_
      · simp (disch := omega) only [zl11, ↓reduceIte, and_self, true_and, and_true, false_and, and_false, Int.reduceEq, Int.reduceLT, Int.reduceLE, sw, Option.bind_some, zl0, zl1, zl2, zl3, zl4, zl5, zl6, zl7, zl8, zl9, zl10, zl20, zl21, zl28, zl33, zl34, zI_neg, zI_add, zI_sub, zI_mul, zI_lt, zI_le, zI_eq, zI_ib, zI_ix, if_pos, if_neg, F_X11_answer, F_X11_refuse, F_X12_tells, F_X12_refused, if_true, if_false]
      · simp (disch := omega) only [zl11, ↓reduceIte, and_self, true_and, and_true, false_and, and_false, Int.reduceEq, Int.reduceLT, Int.reduceLE, sw, Option.bind_some, zl0, zl1, zl2, zl3, zl4, zl5, zl6, zl7, zl8, zl9, zl10, zl20, zl21, zl28, zl33, zl34, zI_neg, zI_add, zI_sub, zI_mul, zI_lt, zI_le, zI_eq, zI_ib, zI_ix, if_pos, if_neg, F_X11_answer, F_X11_refuse, F_X12_tells, F_X12_refused, if_true, if_false]
