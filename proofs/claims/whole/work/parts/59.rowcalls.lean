/-! CALLS OF THE BEST ROWS -/
theorem zLst : (-100000000 : Int32) = zI (-100000000) := by decide
theorem sp_best : Sp_best Inv := by
  intro σC σM h
  have h := Inv_0 h
  unfold F_X11_best F_X12_best
  rw [sw]
  generalize si σM 0 0 0 = s1 at h ⊢
  rcases h.2.2.2 with ⟨u1, u2⟩ | ⟨n, nb, t, hd, ac, μ, un, l, ca⟩
  · refine q_fin h (w := 1) (by decide) (v := -1) ?_ ?_
    · rw [if_pos u1]; rfl
    · rw [if_pos u2]; rfl
  · obtain ⟨τC, q, a1, a2, a3, a4, a5, a6, a7⟩ := cf_best l ca
    obtain ⟨τM, p, b1, b2, b3, b4, b5, b6⟩ := m_best l h.2.2.1 (Or.inl ⟨rfl, rfl⟩)
    have e : vl n (prw μ) p = vl n (prw μ) q := vl_cg (Opt_un a5 b3)
    refine f_fin h l a2 (MfF_ag b2) a3 (w := 0) (by decide) (v := zI (vl n (prw μ) q)) ?_ ?_
    · rw [if_neg (by rw [l.1.1]; decide), l.1.2.2.1, Option.bind_some, a1, Option.bind_some]
      unfold F_X11_worthOf
      dsimp only
      rw [if_pos (by decide), a6]
      rfl
    · rw [if_neg (by rw [l.1.2.1]; decide), b1, Option.bind_some, e]
      rfl
theorem sp_bestOf : Sp_bestOf Inv := by
  intro σC σM i h
  have h := Inv_0 h
  obtain ⟨z, hz1, hz2, rfl⟩ := zI_of i
  unfold F_X11_bestOf F_X12_bestOf
  rw [sw]
  generalize si σM 0 0 0 = s1 at h ⊢
  rcases h.2.2.2 with ⟨u1, u2⟩ | ⟨n, nb, t, hd, ac, μ, un, l, ca⟩
  · refine q_fin h (w := 1) (by decide) (v := -1) ?_ ?_
    · rw [c_noS0 u1, Option.bind_some, if_neg (show ¬ zI 1 = 0 by decide)]; rfl
    · rw [m_isS0 u2, Option.bind_some, if_pos (show zI 0 = 0 by decide)]; rfl
  · have l' := l
    obtain ⟨⟨l1, l2, l3, l4⟩, ⟨g, g8, g9⟩, hm, ⟨hy, hyn⟩, ht, hb, -⟩ := l'
    have T := tC_t l4
    have h4 := g.1.2.1
    rcases (show ¬ (0 ≤ z ∧ z < n) ∨ ∃ s : Nat, z = s ∧ s < n from if q : 0 ≤ z ∧ z < n then Or.inr ⟨z.toNat, by omega, by omega⟩ else Or.inl q) with q | ⟨s, rfl, hs⟩
    · refine q_fin h (w := 1) (by decide) (v := -1) ?_ ?_
      · rw [show F_X11_noService σC (zI z) = some (zI 1) from (c_noS l1 l3 T.1 ht.1.1 h4 ⟨hz1, hz2⟩).trans (congrArg some (if_neg q)), Option.bind_some, if_neg (show ¬ zI 1 = 0 by decide)]; rfl
      · rw [show F_X12_isService s1 (zI z) = some (zI 0) from (m_isS hm l2 h4 ⟨hz1, hz2⟩).trans (congrArg some (if_neg q)), Option.bind_some, if_pos (show zI 0 = 0 by decide)]; rfl
    · obtain ⟨τC, q, a1, a2, a3, a4, a5, a6, a7⟩ := cf_best l ca
      obtain ⟨τM, p, b1, b2, b3, b4, b5, b6⟩ := m_best l h.2.2.1 (Or.inl ⟨rfl, rfl⟩)
      have e : p s = q s := Opt_un a5 b3 s hs
      refine f_fin h l a2 (MfF_ag b2) a3 (w := 0) (by decide) (v := zI (q s)) ?_ ?_
      · rw [show F_X11_noService σC (zI s) = some (zI 0) from (c_noS l1 l3 T.1 ht.1.1 h4 ⟨hz1, hz2⟩).trans (congrArg some (if_pos (by omega))), Option.bind_some, if_pos (show zI 0 = 0 by decide), l3, Option.bind_some, a1, Option.bind_some]
        unfold F_X11_priceIn
        simp (disch := omega) only [zI_ib, zI_ix, Int.toNat_natCast]
        rw [if_pos (by decide), if_pos (by omega), a7 s hs]
        rfl
      · rw [show F_X12_isService s1 (zI s) = some (zI 1) from (m_isS hm l2 h4 ⟨hz1, hz2⟩).trans (congrArg some (if_pos (by omega))), Option.bind_some, if_neg (show ¬ zI 1 = 0 by decide), b1, Option.bind_some, if_neg (show ¬ zI (vl n (prw μ) p) ≤ -100000000 from by rw [zLst]; exact zleF (by omega))]
        simp (disch := omega) only [zI_ib, zI_ix, Int.toNat_natCast]
        rw [if_pos (by omega), b4 s hs, e]
        rfl
theorem sp_fair : Sp_fair Inv := by
  intro σC σM h
  have h := Inv_0 h
  unfold F_X11_fair F_X12_fair
  rw [sw]
  generalize si σM 0 0 0 = s1 at h ⊢
  rcases h.2.2.2 with ⟨u1, u2⟩ | ⟨n, nb, t, hd, ac, μ, un, l, ca⟩
  · refine q_fin h (w := 1) (by decide) (v := -1) ?_ ?_
    · rw [if_pos u1]; rfl
    · rw [if_pos u2]; rfl
  · obtain ⟨τC, q, a1, a2, a3, a4, a5, a6, a7⟩ := cf_fair l ca
    obtain ⟨τM, p, b1, b2, b3, b4, b5, b6⟩ := m_best l h.2.2.1 (Or.inr ⟨rfl, rfl⟩)
    have e : vl n (gow μ) p = vl n (gow μ) q := vl_cg (Opt_un a5 b3)
    refine f_fin h l a2 (MfF_ag b2) a3 (w := 0) (by decide) (v := zI (vl n (gow μ) q)) ?_ ?_
    · rw [if_neg (by rw [l.1.1]; decide), l.1.2.2.1, Option.bind_some, a1, Option.bind_some]
      unfold F_X11_worthOf
      dsimp only
      rw [if_pos (by decide), a6]
      rfl
    · rw [if_neg (by rw [l.1.2.1]; decide), b1, Option.bind_some, e]
      rfl
theorem sp_fairOf : Sp_fairOf Inv := by
  intro σC σM i h
  have h := Inv_0 h
  obtain ⟨z, hz1, hz2, rfl⟩ := zI_of i
  unfold F_X11_fairOf F_X12_fairOf
  rw [sw]
  generalize si σM 0 0 0 = s1 at h ⊢
  rcases h.2.2.2 with ⟨u1, u2⟩ | ⟨n, nb, t, hd, ac, μ, un, l, ca⟩
  · refine q_fin h (w := 1) (by decide) (v := -1) ?_ ?_
    · rw [c_noS0 u1, Option.bind_some, if_neg (show ¬ zI 1 = 0 by decide)]; rfl
    · rw [m_isS0 u2, Option.bind_some, if_pos (show zI 0 = 0 by decide)]; rfl
  · have l' := l
    obtain ⟨⟨l1, l2, l3, l4⟩, ⟨g, g8, g9⟩, hm, ⟨hy, hyn⟩, ht, hb, -⟩ := l'
    have T := tC_t l4
    have h4 := g.1.2.1
    rcases (show ¬ (0 ≤ z ∧ z < n) ∨ ∃ s : Nat, z = s ∧ s < n from if q : 0 ≤ z ∧ z < n then Or.inr ⟨z.toNat, by omega, by omega⟩ else Or.inl q) with q | ⟨s, rfl, hs⟩
    · refine q_fin h (w := 1) (by decide) (v := -1) ?_ ?_
      · rw [show F_X11_noService σC (zI z) = some (zI 1) from (c_noS l1 l3 T.1 ht.1.1 h4 ⟨hz1, hz2⟩).trans (congrArg some (if_neg q)), Option.bind_some, if_neg (show ¬ zI 1 = 0 by decide)]; rfl
      · rw [show F_X12_isService s1 (zI z) = some (zI 0) from (m_isS hm l2 h4 ⟨hz1, hz2⟩).trans (congrArg some (if_neg q)), Option.bind_some, if_pos (show zI 0 = 0 by decide)]; rfl
    · obtain ⟨τC, q, a1, a2, a3, a4, a5, a6, a7⟩ := cf_fair l ca
      obtain ⟨τM, p, b1, b2, b3, b4, b5, b6⟩ := m_best l h.2.2.1 (Or.inr ⟨rfl, rfl⟩)
      have e : p s = q s := Opt_un a5 b3 s hs
      refine f_fin h l a2 (MfF_ag b2) a3 (w := 0) (by decide) (v := zI (q s)) ?_ ?_
      · rw [show F_X11_noService σC (zI s) = some (zI 0) from (c_noS l1 l3 T.1 ht.1.1 h4 ⟨hz1, hz2⟩).trans (congrArg some (if_pos (by omega))), Option.bind_some, if_pos (show zI 0 = 0 by decide), l3, Option.bind_some, a1, Option.bind_some]
        unfold F_X11_priceIn
        simp (disch := omega) only [zI_ib, zI_ix, Int.toNat_natCast]
        rw [if_pos (by decide), if_pos (by omega), a7 s hs]
        rfl
      · rw [show F_X12_isService s1 (zI s) = some (zI 1) from (m_isS hm l2 h4 ⟨hz1, hz2⟩).trans (congrArg some (if_pos (by omega))), Option.bind_some, if_neg (show ¬ zI 1 = 0 by decide), b1, Option.bind_some, if_neg (show ¬ zI (vl n (gow μ) p) ≤ -100000000 from by rw [zLst]; exact zleF (by omega))]
        simp (disch := omega) only [zI_ib, zI_ix, Int.toNat_natCast]
        rw [if_pos (by omega), b4 s hs, e]
        rfl
theorem sp_gentle : Sp_gentle Inv := by
  intro σC σM h
  have h := Inv_0 h
  unfold F_X11_gentle F_X12_gentle
  rw [sw]
  generalize si σM 0 0 0 = s1 at h ⊢
  rcases h.2.2.2 with ⟨u1, u2⟩ | ⟨n, nb, t, hd, ac, μ, un, l, ca⟩
  · refine q_fin h (w := 1) (by decide) (v := -1) ?_ ?_
    · rw [if_pos u1]; rfl
    · rw [if_pos u2]; rfl
  · obtain ⟨τC, q, a1, a2, a3, a5, a6, a7⟩ := cf_gentle l ca
    obtain ⟨τM, p, b1, b2, b3, b4, b5, b6⟩ := m_gentle l h.2.2.1
    have e : vl n (prw μ) p = vl n (prw μ) q := vl_cg (Opt_un a5 b3)
    refine f_fin h l a2 (b2) a3 (w := 0) (by decide) (v := zI (vl n (prw μ) q)) ?_ ?_
    · rw [if_neg (by rw [l.1.1]; decide), l.1.2.2.1, Option.bind_some, a1, Option.bind_some]
      unfold F_X11_worthOf
      dsimp only
      rw [if_pos (by decide), a6]
      rfl
    · rw [if_neg (by rw [l.1.2.1]; decide), b1, Option.bind_some, e]
      rfl
theorem sp_gentleOf : Sp_gentleOf Inv := by
  intro σC σM i h
  have h := Inv_0 h
  obtain ⟨z, hz1, hz2, rfl⟩ := zI_of i
  unfold F_X11_gentleOf F_X12_gentleOf
  rw [sw]
  generalize si σM 0 0 0 = s1 at h ⊢
  rcases h.2.2.2 with ⟨u1, u2⟩ | ⟨n, nb, t, hd, ac, μ, un, l, ca⟩
  · refine q_fin h (w := 1) (by decide) (v := -1) ?_ ?_
    · rw [c_noS0 u1, Option.bind_some, if_neg (show ¬ zI 1 = 0 by decide)]; rfl
    · rw [m_isS0 u2, Option.bind_some, if_pos (show zI 0 = 0 by decide)]; rfl
  · have l' := l
    obtain ⟨⟨l1, l2, l3, l4⟩, ⟨g, g8, g9⟩, hm, ⟨hy, hyn⟩, ht, hb, -⟩ := l'
    have T := tC_t l4
    have h4 := g.1.2.1
    rcases (show ¬ (0 ≤ z ∧ z < n) ∨ ∃ s : Nat, z = s ∧ s < n from if q : 0 ≤ z ∧ z < n then Or.inr ⟨z.toNat, by omega, by omega⟩ else Or.inl q) with q | ⟨s, rfl, hs⟩
    · refine q_fin h (w := 1) (by decide) (v := -1) ?_ ?_
      · rw [show F_X11_noService σC (zI z) = some (zI 1) from (c_noS l1 l3 T.1 ht.1.1 h4 ⟨hz1, hz2⟩).trans (congrArg some (if_neg q)), Option.bind_some, if_neg (show ¬ zI 1 = 0 by decide)]; rfl
      · rw [show F_X12_isService s1 (zI z) = some (zI 0) from (m_isS hm l2 h4 ⟨hz1, hz2⟩).trans (congrArg some (if_neg q)), Option.bind_some, if_pos (show zI 0 = 0 by decide)]; rfl
    · obtain ⟨τC, q, a1, a2, a3, a5, a6, a7⟩ := cf_gentle l ca
      obtain ⟨τM, p, b1, b2, b3, b4, b5, b6⟩ := m_gentle l h.2.2.1
      have e : p s = q s := Opt_un a5 b3 s hs
      refine f_fin h l a2 (b2) a3 (w := 0) (by decide) (v := zI (q s)) ?_ ?_
      · rw [show F_X11_noService σC (zI s) = some (zI 0) from (c_noS l1 l3 T.1 ht.1.1 h4 ⟨hz1, hz2⟩).trans (congrArg some (if_pos (by omega))), Option.bind_some, if_pos (show zI 0 = 0 by decide), l3, Option.bind_some, a1, Option.bind_some]
        unfold F_X11_priceIn
        simp (disch := omega) only [zI_ib, zI_ix, Int.toNat_natCast]
        rw [if_pos (by decide), if_pos (by omega), a7 s hs]
        rfl
      · rw [show F_X12_isService s1 (zI s) = some (zI 1) from (m_isS hm l2 h4 ⟨hz1, hz2⟩).trans (congrArg some (if_pos (by omega))), Option.bind_some, if_neg (show ¬ zI 1 = 0 by decide), b1, Option.bind_some, if_neg (show ¬ zI (vl n (prw μ) p) ≤ -100000000 from by rw [zLst]; exact zleF (by omega))]
        simp (disch := omega) only [zI_ib, zI_ix, Int.toNat_natCast]
        rw [if_pos (by omega), b4 s hs, e]
        rfl
theorem sp_steady : Sp_steady Inv := by
  intro σC σM i h
  have h := Inv_0 h
  obtain ⟨d, hz1, hz2, rfl⟩ := zI_of i
  unfold F_X11_steady F_X12_steady
  rw [sw]
  generalize si σM 0 0 0 = s1 at h ⊢
  rcases h.2.2.2 with ⟨u1, u2⟩ | ⟨n, nb, t, hd, ac, μ, un, l, ca⟩
  · refine q_fin h (w := 1) (by decide) (v := -1) ?_ ?_
    · rw [if_pos u1]; rfl
    · rw [if_pos u2]; rfl
  · by_cases q : 0 ≤ d ∧ d ≤ 20
    · obtain ⟨τC, a1, a2, a3, a4⟩ := cf_steady l ca q
      obtain ⟨v, τM, b1, b2, b3⟩ := m_steady l h.2.2.1 q
      rw [if_neg (by rw [l.1.1]; decide), if_neg (by rw [l.1.2.1]; decide), c_noP σC ⟨hz1, hz2⟩, m_isP s1 ⟨hz1, hz2⟩, if_pos q, if_pos q, Option.bind_some, Option.bind_some, if_pos (show zI 0 = 0 by decide), if_neg (show ¬ zI 1 = 0 by decide), l.1.2.2.1, Option.bind_some, a1, Option.bind_some, b1, Option.bind_some]
      dsimp only
      rw [if_pos (show (shC 82).1 = 7 by decide)]
      rcases a4 with ⟨a4, a5⟩ | ⟨a4, q1, a5, a6, a7⟩
      · rcases b3 with ⟨b3, b4⟩ | ⟨p1, b3, b4⟩
        · refine f_fin h l a2 b2 a3 (w := 6) (by decide) (v := -1) ?_ ?_
          · rw [a4, if_pos rfl]; rfl
          · rw [b3, if_pos rfl]; rfl
        · exact absurd b3 (a5 p1)
      · rcases b3 with ⟨b3, b4⟩ | ⟨p1, b3, b4, b5, b6, b7⟩
        · exact absurd a5 (b4 q1)
        · have e : vl n (prw μ) p1 = vl n (prw μ) q1 := vl_cg (Opt_un a5 b3)
          refine f_fin h l a2 b2 a3 (w := 0) (by decide) (v := zI (vl n (prw μ) q1)) ?_ ?_
          · rw [a4, if_neg (by decide), a6]; rfl
          · rw [b4, if_neg (show ¬ zI (vl n (prw μ) p1) = -100000000 from by rw [zLst, zI_eq (by omega) (by omega) (by omega) (by omega)]; omega), e]; rfl
    · refine q_fin h (w := 2) (by decide) (v := -1) ?_ ?_
      · rw [if_neg (by rw [l.1.1]; decide), c_noP σC ⟨hz1, hz2⟩, if_neg q, Option.bind_some, if_neg (show ¬ zI 1 = 0 by decide)]; rfl
      · rw [if_neg (by rw [l.1.2.1]; decide), m_isP s1 ⟨hz1, hz2⟩, if_neg q, Option.bind_some, if_pos (show zI 0 = 0 by decide)]; rfl
theorem sp_steadyOf : Sp_steadyOf Inv := by
  intro σC σM i j h
  have h := Inv_0 h
  obtain ⟨d, hd1, hd2, rfl⟩ := zI_of i
  obtain ⟨z, hz1, hz2, rfl⟩ := zI_of j
  unfold F_X11_steadyOf F_X12_steadyOf
  rw [sw]
  generalize si σM 0 0 0 = s1 at h ⊢
  rcases h.2.2.2 with ⟨u1, u2⟩ | ⟨n, nb, t, hd, ac, μ, un, l, ca⟩
  · refine q_fin h (w := 1) (by decide) (v := -1) ?_ ?_
    · rw [c_noS0 u1, Option.bind_some, if_neg (show ¬ zI 1 = 0 by decide)]; rfl
    · rw [m_isS0 u2, Option.bind_some, if_pos (show zI 0 = 0 by decide)]; rfl
  · have l' := l
    obtain ⟨⟨l1, l2, l3, l4⟩, ⟨g, g8, g9⟩, hm, ⟨hy, hyn⟩, ht, hb, -⟩ := l'
    have T := tC_t l4
    have h4 := g.1.2.1
    rcases (show ¬ (0 ≤ z ∧ z < n) ∨ ∃ s : Nat, z = s ∧ s < n from if q : 0 ≤ z ∧ z < n then Or.inr ⟨z.toNat, by omega, by omega⟩ else Or.inl q) with q | ⟨s, rfl, hs⟩
    · refine q_fin h (w := 1) (by decide) (v := -1) ?_ ?_
      · rw [show F_X11_noService σC (zI z) = some (zI 1) from (c_noS l1 l3 T.1 ht.1.1 h4 ⟨hz1, hz2⟩).trans (congrArg some (if_neg q)), Option.bind_some, if_neg (show ¬ zI 1 = 0 by decide)]; rfl
      · rw [show F_X12_isService s1 (zI z) = some (zI 0) from (m_isS hm l2 h4 ⟨hz1, hz2⟩).trans (congrArg some (if_neg q)), Option.bind_some, if_pos (show zI 0 = 0 by decide)]; rfl
    · rw [show F_X11_noService σC (zI s) = some (zI 0) from (c_noS l1 l3 T.1 ht.1.1 h4 ⟨hz1, hz2⟩).trans (congrArg some (if_pos (by omega))), Option.bind_some, if_pos (show zI 0 = 0 by decide), show F_X12_isService s1 (zI s) = some (zI 1) from (m_isS hm l2 h4 ⟨hz1, hz2⟩).trans (congrArg some (if_pos (by omega))), Option.bind_some, if_neg (show ¬ zI 1 = 0 by decide)]
      by_cases q : 0 ≤ d ∧ d ≤ 20
      · obtain ⟨τC, a1, a2, a3, a4⟩ := cf_steady l ca q
        obtain ⟨v, τM, b1, b2, b3⟩ := m_steady l h.2.2.1 q
        rw [c_noP σC ⟨hd1, hd2⟩, m_isP s1 ⟨hd1, hd2⟩, if_pos q, if_pos q, Option.bind_some, Option.bind_some, if_pos (show zI 0 = 0 by decide), if_neg (show ¬ zI 1 = 0 by decide), l3, Option.bind_some, a1, Option.bind_some, b1, Option.bind_some]
        dsimp only
        rw [if_pos (show (shC 82).1 = 7 by decide)]
        simp (disch := omega) only [zI_ib, zI_ix, Int.toNat_natCast]
        rw [if_pos (show 0 ≤ (s : Int) ∧ (s : Int) < ((4 : Nat) : Int) by omega), if_pos (show 0 ≤ (s : Int) ∧ (s : Int) < ((4 : Nat) : Int) by omega)]
        rcases a4 with ⟨a4, a5⟩ | ⟨a4, q1, a5, a6, a7⟩
        · rcases b3 with ⟨b3, b4⟩ | ⟨p1, b3, b4⟩
          · refine f_fin h l a2 b2 a3 (w := 6) (by decide) (v := -1) ?_ ?_
            · rw [a4, if_pos rfl]; rfl
            · rw [b3, if_pos rfl]; rfl
          · exact absurd b3 (a5 p1)
        · rcases b3 with ⟨b3, b4⟩ | ⟨p1, b3, b4, b5, b6, b7⟩
          · exact absurd a5 (b4 q1)
          · have e : p1 s = q1 s := Opt_un a5 b3 s hs
            refine f_fin h l a2 b2 a3 (w := 0) (by decide) (v := zI (q1 s)) ?_ ?_
            · rw [a4, if_neg (by decide), a7 s hs]; rfl
            · rw [b4, if_neg (show ¬ zI (vl n (prw μ) p1) = -100000000 from by rw [zLst, zI_eq (by omega) (by omega) (by omega) (by omega)]; omega), b5 s hs, e]; rfl
      · refine q_fin h (w := 2) (by decide) (v := -1) ?_ ?_
        · rw [c_noP σC ⟨hd1, hd2⟩, if_neg q, Option.bind_some, if_neg (show ¬ zI 1 = 0 by decide)]; rfl
        · rw [m_isP s1 ⟨hd1, hd2⟩, if_neg q, Option.bind_some, if_pos (show zI 0 = 0 by decide)]; rfl
