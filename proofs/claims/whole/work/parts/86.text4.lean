/-! TEXT -/
theorem sp_text : Sp_text Inv := by
  intro σC σM i h
  have h := Inv_0 h
  obtain ⟨z, hz1, hz2, rfl⟩ := zI_of i
  unfold F_X11_text F_X12_text
  rw [sw]
  generalize si σM 0 0 0 = s1 at h ⊢
  obtain ⟨⟨⟨m, m1, m2, m3, m4⟩, wr, tn, hh⟩, tq, mz, ld⟩ := id h
  have mi : F_X12_in s1 (zI z) 0 (zI (m : Int)) = some (if 0 ≤ z ∧ z ≤ m then zI 1 else zI 0) := m_in s1 ⟨hz1, hz2⟩ (b := 0) (c := m) (by omega) (by omega)
  rw [m3, mi, Option.bind_some, m2]
  by_cases q : 0 ≤ z ∧ z ≤ m
  · obtain ⟨j, rfl⟩ : ∃ j : Nat, z = j := ⟨z.toNat, by omega⟩
    rw [if_neg (zlt0F (by omega)), if_pos (zleT (by omega)), if_pos q, if_neg (show ¬ zI 1 = 0 by decide)]
    obtain ⟨t, t', ht', e11, e12, htt⟩ : ∃ t t', (t' = 102 ∨ t' = 110) ∧ σC.2.2 0 11 = some t ∧ σC.2.2 0 12 = some t' ∧ (t = 102 ∧ t' = 110 ∨ t = 110 ∧ t' = 102) := by
      rcases tn with ⟨a, b⟩ | ⟨a, b⟩
      · exact ⟨102, 110, Or.inr rfl, a, b, Or.inl ⟨rfl, rfl⟩⟩
      · exact ⟨110, 102, Or.inl rfl, a, b, Or.inr ⟨rfl, rfl⟩⟩
    obtain ⟨σ0, τ0, y, σ', r1, r2, f1, f2, f3, f4, f5, f6, f7⟩ := j_read (σC := σC) (s1 := s1) (t := t') (z := j) (m := m) ht' m1 (by omega) m4
    rw [e12, Option.bind_some, r1, Option.bind_some, sw, sw, sw, sw, sw, sw, sw, sw, sw, sw, show (si (si (si (si (si (si (si s1 0 5 (zI (j : Int))) 0 4 0) 0 6 0) 0 7 0) 0 23 0) 0 29 0) 0 30 0) = s8 s1 (zI (j : Int)) from rfl]
    have e8 : (si σ' 0 14 0).1 2 8 = σ'.1 2 8 := by rw [si_rd, if_neg (by omega)]
    have e9 : (si (si σ' 0 14 0) 0 16 (σ'.1 2 8)).1 2 9 = σ'.1 2 9 := by rw [si_rd, if_neg (by omega), si_rd, if_neg (by omega)]
    rw [e8, e9]
    rcases r2 with ⟨rfl, τ, n, nb, g1, g2, ⟨g3, g4, g5, g6, g7⟩, g8, g9, g10, g11, d⟩ | ⟨rfl, τ, g1, ⟨⟨f, g2, g3, g4⟩, g5, g6, g7⟩⟩
    · have cO : ∀ a k, a ≠ 2 → ¬ (t' ≤ a ∧ a ≤ t' + 4) → σ'.1 a k = σC.1 a k := fun a k q1 q2 => (g10.1 a k (by omega) q2).trans (f1 a k q1 q2)
      have mO : ∀ a k, ¬ (a = 0 ∧ ((4 ≤ k ∧ k ≤ 12) ∨ k = 23 ∨ k = 29 ∨ k = 30)) → a ≠ 3 → a ≠ 11 → τ.1 a k = s1.1 a k := fun a k q1 q2 q3 => (g11.1 a k (by omega) q2 q3).trans (f5 a k (by omega) q2)
      have m04 : τ.1 0 4 = 0 := (g11.1 0 4 (by omega) (by omega) (by omega)).trans f6
      have w11 : (si (si σ' 0 14 0) 0 16 (σ'.1 2 8)).2.2 0 11 = some t := by
        show σ'.2.2 0 11 = some t
        rw [g10.2.2, f3 _ _ (by omega)]; exact e11
      have w12 : (si (si σ' 0 14 0) 0 16 (σ'.1 2 8)).2.2 0 12 = some t' := by
        show σ'.2.2 0 12 = some t'
        rw [g10.2.2, f3 _ _ (by omega)]; exact e12
      rw [g1, if_neg (show ¬ (1 : Int32) = 0 by decide), w11, Option.bind_some, w12, Option.bind_some, sw, sw]
      have k1 : ∀ a k, ¬ (a = 0 ∧ (k = 14 ∨ k = 16)) → (sr (sr (si (si σ' 0 14 0) 0 16 (σ'.1 2 8)) 0 11 (some t')) 0 12 (some t)).1 a k = σ'.1 a k := fun a k q => by
        rw [sr_1, sr_1, si_rd, if_neg (by omega), si_rd, if_neg (by omega)]
      have k2 : (sr (sr (si (si σ' 0 14 0) 0 16 (σ'.1 2 8)) 0 11 (some t')) 0 12 (some t)).1 0 14 = 0 := by
        rw [sr_1, sr_1, si_rd, if_neg (by omega), si_rd, if_pos ⟨rfl, rfl⟩]
      have k3 : (sr (sr (si (si σ' 0 14 0) 0 16 (σ'.1 2 8)) 0 11 (some t')) 0 12 (some t)).1 0 16 = 0 := by
        rw [sr_1, sr_1, si_rd, if_pos ⟨rfl, rfl⟩, g8]; exact f4
      have k4 : (sr (sr (si (si σ' 0 14 0) 0 16 (σ'.1 2 8)) 0 11 (some t')) 0 12 (some t)).2.1 = σ'.2.1 := rfl
      have k5 : (sr (sr (si (si σ' 0 14 0) 0 16 (σ'.1 2 8)) 0 11 (some t')) 0 12 (some t)).2.2 0 11 = some t' ∧ (sr (sr (si (si σ' 0 14 0) 0 16 (σ'.1 2 8)) 0 11 (some t')) 0 12 (some t)).2.2 0 12 = some t := by
        refine ⟨?_, ?_⟩
        · rw [sr_rd, if_neg (by omega), sr_rd, if_pos ⟨rfl, rfl⟩]
        · rw [sr_rd, if_pos ⟨rfl, rfl⟩]
      generalize sr (sr (si (si σ' 0 14 0) 0 16 (σ'.1 2 8)) 0 11 (some t')) 0 12 (some t) = s4 at *
      have gd := Dt_Gd d ⟨g2.1, g2.2.1⟩
      have hTV : TV (si s4 0 13 1) t' (fun k => (τ.1 3 k).toInt) n := by
        have es : ∀ a k, a ≠ 0 → (si s4 0 13 1).1 a k = σ'.1 a k := fun a k q => by rw [si_rd, if_neg (by omega)]; exact k1 a k (by omega)
        refine ⟨by rw [es _ _ (by omega)]; exact g4, fun s hs => ?_⟩
        obtain ⟨v0, v1, v2, v3, v4, v5, v6⟩ := d.2.1.1 s hs
        rw [es _ _ (by omega), es _ _ (by omega), es _ _ (by omega), es _ _ (by omega)]
        exact ⟨(ve_to v2 (by decide)).1, (ve_to v3 (by decide)).1, (ve_to v4 (by decide)).1, (ve_to v6 (by decide)).1⟩
      obtain ⟨x, b1, b2, b3, b4, b5, b6⟩ := c_bt ht' k5.1 gd.2.1 g2.2.1 hTV
      obtain ⟨τ', c1, c2, c3, c4, c5, c6⟩ := m_take τ
      have hv : (fgt x).1 t' 0 = zI n := by
        rw [fgt_o x (by omega), b5 _ _ (by omega) (by omega), si_rd, if_neg (by omega), k1 _ _ (by omega)]; exact g4
      rw [b1, Option.bind_some, show (fgt x).2.2 0 11 = some t' from by rw [show (fgt x).2 = x.2 from rfl, b6]; exact k5.1, Option.bind_some, if_pos (tC_t ht').1, hv, c1, g6]
      unfold F_X11_answer
      rw [sw, Option.bind_some]
      exact ⟨zI n, _, _, rfl, rfl, tx_good h ht' htt g2 cO mO m04 (g8.trans f4) g9 d k1 k2 k3 k4 k5 g4 g5 g6 g7 b2 b3 b4 b5 b6 c2 c3 c4 c5 c6⟩
    · rw [g1, if_pos (show (0 : Int32) = 0 from rfl)]
      unfold F_X11_refuse
      rw [sw, Option.bind_some]
      refine ⟨-1, _, _, rfl, rfl, tx_bad h ht' e11 htt (fun a k q1 q2 => (g6.1 a k (by omega) q2).trans (f1 a k q1 q2)) (fun a k q1 q2 => (g6.2.1 a k q1 q2).trans (by rw [f2])) (fun a k q1 => (congrFun (congrFun g6.2.2 a) k).trans (f3 a k q1)) (fun a k q1 q2 q3 => (g7.1 a k (by omega) q2 q3).trans (f5 a k (by omega) q2)) ((g7.1 0 4 (by omega) (by omega) (by omega)).trans f6) (fun a k q1 q2 => (g7.2.1 a k q1 q2).trans (by rw [f7])) (g3.trans g4.symm) g5⟩
  · refine q_fin h (w := 2) (by decide) (v := -1) ?_ ?_
    · by_cases q3 : z < 0
      · rw [if_pos (show zI z < 0 from by rw [zl0]; exact zltT (by omega))]; rfl
      · rw [if_neg (zlt0F (by omega)), if_neg (zleF (by omega))]; rfl
    · rw [if_neg q, if_pos (show zI 0 = 0 by decide)]; rfl
