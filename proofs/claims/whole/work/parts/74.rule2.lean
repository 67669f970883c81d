/-! READING: A RULE -/
theorem DtV_f2 {σ τ σ' τ' : Sto} {t n : Nat} (hn : n ≤ 4) (h : DtV σ τ t n) (f : σ'.1 (t + 2) = σ.1 (t + 2)) (g : ∀ k, k < 28 → τ'.1 3 k = τ.1 3 k) : DtV σ' τ' t n := by
  refine ⟨fun s hs => ?_, fun s h1 h2 => ?_⟩
  · rw [f, g (7 * s) (by omega), g (7 * s + 1) (by omega), g (7 * s + 2) (by omega), g (7 * s + 3) (by omega), g (7 * s + 4) (by omega), g (7 * s + 5) (by omega), g (7 * s + 6) (by omega)]
    exact h.1 s hs
  · rw [f]
    exact h.2 s h1 h2
theorem mk_bit : ∀ m, m < 16 → ∀ r, r < 4 → (((zI ((m : Nat) : Int) >>> (zI ((r : Nat) : Int) &&& 31)) &&& 1 = 0) ∨ ((zI ((m : Nat) : Int) >>> (zI ((r : Nat) : Int) &&& 31)) &&& 1 = 1)) ∧ (zI ((m : Nat) : Int) ||| ((1 : Int32) <<< (zI ((r : Nat) : Int) &&& 31))) = zI (((m ||| 2 ^ r : Nat)) : Int) ∧ (m ||| 2 ^ r) < 16 := by decide +kernel
theorem c_mostR (σ : Sto) {r : Nat} (hr : r < 4) : F_X9_mostOfRule σ (zI r) = some (zI (mxR r)) := by
  unfold F_X9_mostOfRule mxR
  rcases (show r = 0 ∨ r = 1 ∨ r = 2 ∨ r = 3 by omega) with rfl | rfl | rfl | rfl <;> decide
theorem mxR_bd {r : Nat} (hr : r < 4) : 0 ≤ mxR r ∧ mxR r ≤ 999 := by
  unfold mxR
  rcases (show r = 0 ∨ r = 1 ∨ r = 2 ∨ r = 3 by omega) with rfl | rfl | rfl | rfl <;> decide
theorem m_r17 (τ : Sto) {r : Nat} (hr : r < 4) : F_X12_readRule_17 τ (zI r) = (F_X12_goOn (si τ 0 30 ((τ.1 0 30) ||| (1 <<< (zI r &&& 31))))).bind fun x1 => F_X12_readRule_65 x1 (28 + zI r) 0 (zI (mxR r)) := by
  unfold F_X12_readRule_17
  rw [sw]
  rcases (show r = 0 ∨ r = 1 ∨ r = 2 ∨ r = 3 by omega) with rfl | rfl | rfl | rfl
  · simp only [if_neg (show ¬ (2 : Int32) ≤ zI ((0 : Nat) : Int) by decide), show zI (mxR 0) = 50 from by decide]
  · simp only [if_neg (show ¬ (2 : Int32) ≤ zI ((1 : Nat) : Int) by decide), show zI (mxR 1) = 50 from by decide]
  · simp only [if_pos (show (2 : Int32) ≤ zI ((2 : Nat) : Int) by decide), if_pos (show zI ((2 : Nat) : Int) = (2 : Int32) by decide), show zI (mxR 2) = 100 from by decide]
  · simp only [if_pos (show (2 : Int32) ≤ zI ((3 : Nat) : Int) by decide), if_neg (show ¬ zI ((3 : Nat) : Int) = (2 : Int32) by decide), show zI (mxR 3) = 99 from by decide]
theorem m_65 {τ τ' : Sto} {r : Nat} {a b y : Int32} (hr : r < 4) (h : F_X12_readWhole τ a b = some (y, τ')) : F_X12_readRule_65 τ (28 + zI r) a b = some (si τ' 3 (28 + r) y) := by
  unfold F_X12_readRule_65
  rw [h, Option.bind_some, show (28 : Int32) = zI 28 from by decide, zI_add]
  simp (disch := omega) only [zI_ib, zI_ix]
  rw [if_pos (by omega), sw, show (28 + (r : Int)).toNat = 28 + r by omega]
theorem z_r17 {τ : Sto} (h : Fz τ) {r : Nat} (hr : r < 4) : ∃ τ', F_X12_readRule_17 τ (zI r) = some τ' ∧ Zk τ τ' := by
  have k1 : Zk τ (si τ 0 30 ((τ.1 0 30) ||| (1 <<< (zI r &&& 31)))) := Zk_si τ _ (by omega)
  have h1 := Zk_Fz k1 h
  rw [m_r17 τ hr, z_goOn h1, Option.bind_some, m_65 hr (z_whole h1 _ _)]
  exact ⟨_, rfl, Zk_tr k1 (Zk_si _ _ (by omega))⟩
theorem j_rule {T : Nat → Int} {z t L n nb r : Nat} {σ0 τ0 σ τ : Sto} (h : Sy T z t L σ0 τ0 σ τ n nb n nb) (d : Dt σ τ t n nb) (hn : n ≤ 4) (hr : r < 4) : ∃ x σ' τ', F_X6_readRule σ (zI r) = some (x, σ') ∧ F_X12_readRule τ (zI r) = some τ' ∧ ((x = 1 ∧ Sy T z t L σ0 τ0 σ' τ' n nb n nb ∧ Dt σ' τ' t n nb) ∨ (x = 0 ∧ Bad t σ0 τ0 σ' τ')) := by
  have ht := h.2.2.1.2
  have TC := tC_t ht
  have h7 := Sy_7 h
  obtain ⟨c1, c2, c3, c4⟩ := h.2.2.2.1
  obtain ⟨m, m1, m2, m3⟩ := d.2.2.2.2
  obtain ⟨b1, b2, b3⟩ := mk_bit m m1 r hr
  have mb := mxR_bd hr
  unfold F_X6_readRule F_X12_readRule
  rw [m2, m3]
  rcases b1 with b1 | b1
  · rw [if_pos b1, if_neg (by rw [b1]; decide), m_r17 τ hr, m3, b2, sw]
    have s1 : Sy T z t L σ0 τ0 (si σ 2 7 (zI ((m ||| 2 ^ r : Nat) : Int))) (si τ 0 30 (zI ((m ||| 2 ^ r : Nat) : Int))) n nb n nb := Sy_wr h (FC_si σ _ (by omega)) (FM_si τ _ (by omega)) (fun k _ _ => by rw [si_rd, if_neg (by omega)]) rfl (fun k _ _ => by rw [si_rd, if_neg (by omega)]) rfl ⟨by rw [si_rd, if_neg (by omega)]; exact c1, by rw [si_rd, if_neg (by omega)]; exact c2, by rw [si_rd, if_neg (by omega)]; exact c3, by rw [si_rd, if_neg (by omega)]; exact c4⟩
    have d1 : Dt (si σ 2 7 (zI ((m ||| 2 ^ r : Nat) : Int))) (si τ 0 30 (zI ((m ||| 2 ^ r : Nat) : Int))) t n nb := by
      obtain ⟨p1, p2, p3, p4, -⟩ := d
      refine ⟨p1, DtV_f2 hn p2 (funext fun k => by rw [si_rd, if_neg (by omega)]) (fun k _ => by rw [si_rd, if_neg (by omega)]), DtR_fr p3 (funext fun k => by rw [si_rd, if_neg (by omega)]) (fun k _ _ => by rw [si_rd, if_neg (by omega)]), DtU_fr p4 (funext fun k => by rw [si_rd, if_neg (by omega)]) (funext fun k => by rw [si_rd, if_neg (by omega)]), ⟨m ||| 2 ^ r, b3, by rw [si_rd, if_pos ⟨rfl, rfl⟩], by rw [si_rd, if_pos ⟨rfl, rfl⟩]⟩⟩
    obtain ⟨σ1, τ1, a1, a2, a3, a4, a5⟩ := Sy_adv s1
    have d2 := Dt_rd ht d1 a4 a5
    rw [a1, Option.bind_some, a2, Option.bind_some, c_mostR σ1 hr, Option.bind_some]
    rcases j_whole a3 mb with ⟨v, v1, v2, v3, v4, v5⟩ | ⟨f, f1, f2, y, f3⟩
    · obtain ⟨σ2, τ2, e1, e2, e3, e4, e5⟩ := j_st (c := t + 4) (k := r) (r := 3) (kk := 28 + r) (zI v) a3 (by omega) (Or.inl rfl)
      rw [e2, Option.bind_some] at v5
      rw [v4, Option.bind_some, if_neg (show ¬ (1 : Int32) = 0 by decide), a3.2.2.1.1, Option.bind_some, if_pos TC.1, m_65 hr v5, v3]
      simp (disch := omega) only [zI_ib, zI_ix, Int.toNat_natCast]
      rw [if_pos (show (0 : Int) ≤ (r : Int) ∧ (r : Int) < ((4 : Nat) : Int) by omega), sw, e1, Option.bind_some]
      refine ⟨1, σ2, _, rfl, rfl, Or.inl ⟨rfl, e3, Dt_rd ht ?_ e4 e5⟩⟩
      obtain ⟨p1, p2, p3, p4, p5⟩ := d2
      refine ⟨p1, DtV_f2 hn p2 (funext fun k => by rw [si_rd, if_neg (by omega)]) (fun k _ => by rw [si_rd, if_neg (by omega)]), ⟨fun s hs => ?_, by rw [si_rd, if_neg (by omega)]; exact p3.2.1, by rw [si_rd, if_neg (by omega)]; exact p3.2.2⟩, DtU_fr p4 (funext fun k => by rw [si_rd, if_neg (by omega)]) (funext fun k => by rw [si_rd, if_neg (by omega)]), DtM_fr p5 (by rw [si_rd, if_neg (by omega)]) (by rw [si_rd, if_neg (by omega)])⟩
      by_cases e : s = r
      · rw [e, si_rd, if_pos ⟨rfl, rfl⟩, si_rd, if_pos ⟨rfl, rfl⟩]
        exact ⟨v, v1, v2, rfl, rfl⟩
      · rw [si_rd, if_neg (by omega), si_rd, if_neg (by omega)]
        exact p3.1 s hs
    · rw [f2, Option.bind_some, if_pos (show (0 : Int32) = 0 from rfl), m_65 hr f3]
      refine ⟨0, _, _, rfl, rfl, Or.inr ⟨rfl, Bad_z (j_fail a3 ?_) (Zk_si _ _ (by omega))⟩⟩
      rcases f1 with f1 | f1
      · exact Or.inl f1
      · exact Or.inr (Or.inl f1)
  · have bad := j_fail h (f := 3) (Or.inr (Or.inr (Or.inl rfl)))
    obtain ⟨τ', k1, k2⟩ := z_r17 (flw_Fz τ (f := 3) (Or.inr (Or.inr (Or.inl rfl)))) hr
    rw [if_neg (by rw [b1]; decide), if_pos b1, m_flaw h7, Option.bind_some, k1, c_wrap]
    exact ⟨0, _, τ', rfl, rfl, Or.inr ⟨rfl, Bad_z bad k2⟩⟩
