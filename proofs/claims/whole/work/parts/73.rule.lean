/-! READING: A WHOLE NUMBER, A NAME, A RULE -/
theorem flw_Fz (τ : Sto) {f : Int32} (hf : f = 1 ∨ f = 2 ∨ f = 3 ∨ f = 4 ∨ f = 5) : Fz (flw τ f) := by
  unfold Fz flw
  rw [si_rd, if_neg (by omega), si_rd, if_pos ⟨rfl, rfl⟩]
  rcases hf with rfl | rfl | rfl | rfl | rfl <;> decide
theorem flw_o (τ : Sto) (f : Int32) {k : Nat} (h : k ≠ 7 ∧ k ≠ 8) : (flw τ f).1 0 k = τ.1 0 k := by
  unfold flw
  rw [si_rd, if_neg (by omega), si_rd, if_neg (by omega)]
theorem c_wrap (σ : Sto) (f : Int32) : ((F_X6_fail σ f).bind fun x2 => if x2.1 = 0 ∨ x2.1 = 1 then (some (x2.1, x2.2)) else none) = some (0, fal σ f) := by
  rw [c_fail, Option.bind_some, if_pos (Or.inl rfl)]
theorem j_whole {T : Nat → Int} {z t L n nb n' nb' : Nat} {σ0 τ0 σ τ : Sto} {m : Int} (h : Sy T z t L σ0 τ0 σ τ n nb n' nb') (hm : 0 ≤ m ∧ m ≤ 999) : (∃ v : Int, 0 ≤ v ∧ v ≤ m ∧ σ.1 2 5 = zI v ∧ F_X6_readWhole σ (zI m) = some (1, σ) ∧ F_X12_readWhole τ 0 (zI m) = (F_X12_goOn τ).bind fun x => some (zI v, x)) ∨ (∃ f : Int32, (f = 1 ∨ f = 2) ∧ F_X6_readWhole σ (zI m) = some (0, fal σ f) ∧ ∃ y, F_X12_readWhole τ 0 (zI m) = some (y, flw τ f)) := by
  have h7 := Sy_7 h
  have bad : ∀ f : Int32, (f = 1 ∨ f = 2 ∨ f = 3 ∨ f = 4 ∨ f = 5) → F_X12_readWhole_33 (flw τ f) = some ((flw τ f).1 0 12, flw τ f) := fun f hf => by
    unfold F_X12_readWhole_33
    rw [z_goOn (flw_Fz τ hf), Option.bind_some]
  have no : ¬ σ.1 2 3 = 2 → ¬ τ.1 0 9 = 3 → (∃ v : Int, 0 ≤ v ∧ v ≤ m ∧ σ.1 2 5 = zI v ∧ F_X6_readWhole σ (zI m) = some (1, σ) ∧ F_X12_readWhole τ 0 (zI m) = (F_X12_goOn τ).bind fun x => some (zI v, x)) ∨ (∃ f : Int32, (f = 1 ∨ f = 2) ∧ F_X6_readWhole σ (zI m) = some (0, fal σ f) ∧ ∃ y, F_X12_readWhole τ 0 (zI m) = some (y, flw τ f)) := by
    intro e1 e2
    refine Or.inr ⟨1, Or.inl rfl, ?_, (flw τ 1).1 0 12, ?_⟩
    · unfold F_X6_readWhole
      rw [if_neg e1]
      exact c_wrap σ 1
    · unfold F_X12_readWhole
      rw [if_neg e2, m_flaw h7, Option.bind_some]
      exact bad 1 (Or.inl rfl)
  obtain ⟨-, ⟨-, tk⟩, -⟩ := h
  rcases tk with ⟨a, b⟩ | ⟨a, b, -⟩ | ⟨a, b, v, v1, v2, v3, v4⟩ | ⟨a, b, -⟩ | ⟨a, b, -⟩ | ⟨a, b⟩
  · exact no (by rw [a]; decide) (by rw [b]; decide)
  · exact no (by rw [a]; decide) (by rw [b]; decide)
  · have ein : F_X12_in τ (zI v) 0 (zI m) = some (if 0 ≤ v ∧ v ≤ m then zI 1 else zI 0) := m_in τ (b := 0) (by omega) (by omega) (by omega)
    by_cases q : v ≤ m
    · refine Or.inl ⟨v, v1, q, v3, ?_, ?_⟩
      · unfold F_X6_readWhole F_X6_readWhole_30
        rw [if_pos a, v3, if_pos (zleT (by omega))]
      · unfold F_X12_readWhole F_X12_readWhole_33
        rw [if_pos b, v4, ein, if_pos ⟨v1, q⟩, Option.bind_some, if_neg (show ¬ zI 1 = 0 by decide)]
    · refine Or.inr ⟨2, Or.inr rfl, ?_, (flw τ 2).1 0 12, ?_⟩
      · unfold F_X6_readWhole
        rw [if_pos a, v3, if_neg (zleF (by omega)), c_fail, Option.bind_some, if_pos rfl]
      · unfold F_X12_readWhole
        rw [if_pos b, v4, ein, if_neg (fun hh => q hh.2), Option.bind_some, if_pos (show zI 0 = 0 by decide), m_flaw h7, Option.bind_some]
        exact bad 2 (Or.inr (Or.inl rfl))
  · exact no (by rw [a]; decide) (by rw [b]; decide)
  · exact no (by rw [a]; decide) (by rw [b]; decide)
  · exact no (by rw [a]; decide) (by rw [b]; decide)
theorem RdM_w {τ τ' : Sto} (h : RdM τ τ') {a k : Nat} (x : Int32) : RdM (si τ a k x) (si τ' a k x) := ⟨fun b j q => by
    rw [si_rd, si_rd]
    by_cases e : b = a ∧ j = k
    · rw [if_pos e, if_pos e]
    · rw [if_neg e, if_neg e]; exact h.1 b j q, h.2.1, h.2.2⟩
/-- a number is laid down, and both go on -/
theorem j_st {T : Nat → Int} {z t L n nb n' nb' c k r kk : Nat} {σ0 τ0 σ τ : Sto} (x : Int32) (h : Sy T z t L σ0 τ0 σ τ n nb n' nb') (hc : t + 2 ≤ c ∧ c ≤ t + 4) (hr : r = 3 ∨ r = 11) : ∃ σ' τ', F_X6_advance (si σ c k x) = some σ' ∧ F_X12_goOn τ = some τ' ∧ Sy T z t L σ0 τ0 σ' (si τ' r kk x) n nb n' nb' ∧ RdC (si σ c k x) σ' ∧ RdM (si τ r kk x) (si τ' r kk x) := by
  have ht := h.2.2.1.2
  have h1 : Sy T z t L σ0 τ0 (si σ c k x) τ n nb n' nb' := Sy_wr h (FC_si σ x (by omega)) (FM_rfl τ) (fun j _ _ => by rw [si_rd, if_neg (by omega)]) rfl (fun _ _ _ => rfl) rfl ⟨by rw [si_rd, if_neg (by omega)]; exact h.2.2.2.1.1, by rw [si_rd, if_neg (by omega)]; exact h.2.2.2.1.2.1, h.2.2.2.1.2.2⟩
  obtain ⟨σ', τ', a1, a2, a3, a4, a5⟩ := Sy_adv h1
  refine ⟨σ', τ', a1, a2, ?_, a4, RdM_w a5 x⟩
  exact Sy_wr a3 (FC_rfl _ _) (FM_si τ' x (by omega)) (fun _ _ _ => rfl) rfl (fun j _ _ => by rw [si_rd, if_neg (by omega)]) rfl ⟨a3.2.2.2.1.1, a3.2.2.2.1.2.1, by rw [si_rd, if_neg (by omega)]; exact a3.2.2.2.1.2.2.1, by rw [si_rd, if_neg (by omega)]; exact a3.2.2.2.1.2.2.2⟩
/-- names that are there already -/
theorem j_has2 {σ τ : Sto} {t n nb : Nat} {w : Int64} (T : tC t) (d : DtN σ τ t n nb) (hn : n ≤ 4) (c1 : σ.1 t 0 = zI n) (c2 : τ.1 0 23 = zI n) (h7 : τ.1 0 7 = 0) (hw : τ.2.1 0 13 = w) (ii : Int32) : ∀ (e i j j' : Nat), i + e = n → e < j → e + 1 < j' → (F_X9_hasName_2 j σ t w (zI i) = some 1 ∧ F_X12_readName_29 j' τ ii (zI i) = some (flw τ 3)) ∨ (F_X9_hasName_2 j σ t w (zI i) = F_X9_hasName_31 FU σ t w 0 ∧ F_X12_readName_29 j' τ ii (zI i) = F_X12_readName_71 FU τ ii 0) := by
  intro e
  induction e with
  | zero =>
    intro i j j' k1 k2 k3
    obtain ⟨j, rfl⟩ : ∃ x, j = x + 1 := ⟨j - 1, by omega⟩
    obtain ⟨j', rfl⟩ : ∃ x, j' = x + 1 := ⟨j' - 1, by omega⟩
    refine Or.inr ⟨?_, ?_⟩
    · rw [F_X9_hasName_2, if_pos T.1, c1, if_pos (zleT (by omega))]
    · rw [F_X12_readName_29, if_pos h7, c2, if_pos (zleT (by omega))]
  | succ e ih =>
    intro i j j' k1 k2 k3
    obtain ⟨j, rfl⟩ : ∃ x, j = x + 1 := ⟨j - 1, by omega⟩
    obtain ⟨j', rfl⟩ : ∃ x, j' = x + 2 := ⟨j' - 2, by omega⟩
    obtain ⟨l, -, l2, l3⟩ := d.1 i (by omega)
    rw [F_X9_hasName_2, if_pos T.1, c1, if_neg (zleF (by omega)), F_X12_readName_29, if_pos h7, c2, if_neg (zleF (by omega))]
    simp (disch := omega) only [zI_ib, zI_ix, Int.toNat_natCast]
    rw [if_pos (show (0 : Int) ≤ (i : Int) ∧ (i : Int) < ((8 : Nat) : Int) by omega), if_pos (show (0 : Int) ≤ (i : Int) ∧ (i : Int) < ((8 : Nat) : Int) by omega), l2, l3, hw, zI_s1]
    by_cases q : lg_cmp (Int64.ofInt (nmV l)) w = 0
    · rw [if_pos q, if_pos q, m_flaw h7, Option.bind_some, z_n29 (flw_Fz τ (Or.inr (Or.inr (Or.inl rfl))))]
      exact Or.inl ⟨rfl, rfl⟩
    · rw [if_neg q, if_neg q]
      exact ih (i + 1) j (j' + 1) (by omega) (by omega) (by omega)
theorem j_has31 {σ τ : Sto} {t n nb : Nat} {w : Int64} (T : tC t) (d : DtN σ τ t n nb) (hn : nb ≤ 4) (c1 : σ.1 t 1 = zI nb) (c2 : τ.1 0 29 = zI nb) (h7 : τ.1 0 7 = 0) (hw : τ.2.1 0 13 = w) (ii : Int32) : ∀ (e i j j' : Nat), i + e = nb → e < j → e + 1 < j' → (F_X9_hasName_31 j σ t w (zI i) = some 1 ∧ F_X12_readName_71 j' τ ii (zI i) = some (flw τ 3)) ∨ (F_X9_hasName_31 j σ t w (zI i) = some 0 ∧ F_X12_readName_71 j' τ ii (zI i) = F_X12_readName_113 τ ii) := by
  intro e
  induction e with
  | zero =>
    intro i j j' k1 k2 k3
    obtain ⟨j, rfl⟩ : ∃ x, j = x + 1 := ⟨j - 1, by omega⟩
    obtain ⟨j', rfl⟩ : ∃ x, j' = x + 1 := ⟨j' - 1, by omega⟩
    refine Or.inr ⟨?_, ?_⟩
    · rw [F_X9_hasName_31, if_pos T.1, c1, if_pos (zleT (by omega))]
    · rw [F_X12_readName_71, if_pos h7, c2, if_pos (zleT (by omega))]
  | succ e ih =>
    intro i j j' k1 k2 k3
    obtain ⟨j, rfl⟩ : ∃ x, j = x + 1 := ⟨j - 1, by omega⟩
    obtain ⟨j', rfl⟩ : ∃ x, j' = x + 2 := ⟨j' - 2, by omega⟩
    have l2 := d.2 i (by omega)
    rw [F_X9_hasName_31, if_pos T.1, c1, if_neg (zleF (by omega)), F_X12_readName_71, if_pos h7, c2, if_neg (zleF (by omega)), zl4, zI_add]
    simp (disch := omega) only [zI_ib, zI_ix]
    rw [if_pos (show (0 : Int) ≤ 4 + (i : Int) ∧ 4 + (i : Int) < ((8 : Nat) : Int) by omega), if_pos (show (0 : Int) ≤ 4 + (i : Int) ∧ 4 + (i : Int) < ((8 : Nat) : Int) by omega), show (4 + (i : Int)).toNat = 4 + i by omega, l2, hw, zI_s1]
    by_cases q : lg_cmp (τ.2.1 8 (4 + i)) w = 0
    · rw [if_pos q, if_pos q, m_flaw h7, Option.bind_some, z_n71 (flw_Fz τ (Or.inr (Or.inr (Or.inl rfl))))]
      exact Or.inl ⟨rfl, rfl⟩
    · rw [if_neg q, if_neg q]
      exact ih (i + 1) j (j' + 1) (by omega) (by omega) (by omega)
theorem j_name {T : Nat → Int} {z t L n nb i : Nat} {σ0 τ0 σ τ : Sto} (h : Sy T z t L σ0 τ0 σ τ n nb n nb) (d : Dt σ τ t n nb) (hn : n ≤ 4 ∧ nb ≤ 4) (hi : (i = n ∧ n < 4) ∨ (i = 4 + nb ∧ nb < 4)) : ∃ τ1, F_X12_goOn τ = some τ1 ∧ τ1.1 0 23 = zI n ∧ τ1.1 0 29 = zI nb ∧ ∃ σ' τ', F_X12_readName τ1 (zI i) = some τ' ∧ ((F_X6_readName σ (zI i) = some (1, σ') ∧ Sy T z t L σ0 τ0 σ' τ' n nb n nb ∧ Dt σ' τ' t n nb ∧ ∃ l, Lts l ∧ σ'.2.1 (t + 1) i = Int64.ofInt (nmV l) ∧ τ'.2.1 8 i = Int64.ofInt (nmV l)) ∨ (F_X6_readName σ (zI i) = some (0, σ') ∧ Bad t σ0 τ0 σ' τ' ∧ τ'.1 0 23 = zI n ∧ τ'.1 0 29 = zI nb)) := by
  have ht := h.2.2.1.2
  have TC := tC_t ht
  obtain ⟨σ1, τ1, a1, a2, a3, a4, a5⟩ := Sy_adv h
  have d1 := Dt_rd ht d a4 a5
  have h7 := Sy_7 a3
  obtain ⟨-, tk, ⟨rf, -⟩, ⟨c1, c2, c3, c4⟩, -⟩ := id a3
  have tk0 := tk
  refine ⟨τ1, a2, c3, c4, ?_⟩
  unfold F_X6_readName
  rw [a1, Option.bind_some]
  have bad : ∀ f : Int32, (f = 1 ∨ f = 2 ∨ f = 3 ∨ f = 4 ∨ f = 5) → Bad t σ0 τ0 (fal σ1 f) (flw τ1 f) ∧ (flw τ1 f).1 0 23 = zI n ∧ (flw τ1 f).1 0 29 = zI nb := fun f hf => ⟨j_fail a3 hf, by rw [flw_o _ _ (by omega)]; exact c3, by rw [flw_o _ _ (by omega)]; exact c4⟩
  have m22 : F_X12_readName_22 τ1 (zI i) = some (flw τ1 1) := by
    unfold F_X12_readName_22
    rw [m_flaw h7, Option.bind_some, show FU = 5999 + 1 from rfl, z_n29 (flw_Fz τ1 (Or.inl rfl))]
  have no : ¬ σ1.1 2 3 = 1 → ¬ τ1.1 0 9 = 2 → ∃ σ' τ', F_X12_readName τ1 (zI i) = some τ' ∧ (((if σ1.1 2 3 = 1 then (((F_X6_isReserved σ1).bind fun x2 => if x2 = 0 then (((σ1.2.2 2 10).bind fun x3 => if (shC x3).1 = 9 then (((F_X9_hasName σ1 x3 (σ1.2.1 2 6)).bind fun x4 => if x4 = 0 then (((σ1.2.2 2 10).bind fun x5 => if (shC x5).1 = 9 then (if ib (zI i) 8 then ((sw (sj σ1 (x5 + 1) (ix (zI i)) (σ1.2.1 2 6)) fun s1 => ((F_X6_advance s1).bind fun x6 => some (1, x6)))) else none) else none)) else (((F_X6_fail σ1 3).bind fun x7 => if x7.1 = 0 ∨ x7.1 = 1 then (some (x7.1, x7.2)) else none)))) else none)) else (F_X6_readName_19 σ1 ))) else (F_X6_readName_19 σ1 )) = some (1, σ') ∧ Sy T z t L σ0 τ0 σ' τ' n nb n nb ∧ Dt σ' τ' t n nb ∧ ∃ l, Lts l ∧ σ'.2.1 (t + 1) i = Int64.ofInt (nmV l) ∧ τ'.2.1 8 i = Int64.ofInt (nmV l)) ∨ ((if σ1.1 2 3 = 1 then (((F_X6_isReserved σ1).bind fun x2 => if x2 = 0 then (((σ1.2.2 2 10).bind fun x3 => if (shC x3).1 = 9 then (((F_X9_hasName σ1 x3 (σ1.2.1 2 6)).bind fun x4 => if x4 = 0 then (((σ1.2.2 2 10).bind fun x5 => if (shC x5).1 = 9 then (if ib (zI i) 8 then ((sw (sj σ1 (x5 + 1) (ix (zI i)) (σ1.2.1 2 6)) fun s1 => ((F_X6_advance s1).bind fun x6 => some (1, x6)))) else none) else none)) else (((F_X6_fail σ1 3).bind fun x7 => if x7.1 = 0 ∨ x7.1 = 1 then (some (x7.1, x7.2)) else none)))) else none)) else (F_X6_readName_19 σ1 ))) else (F_X6_readName_19 σ1 )) = some (0, σ') ∧ Bad t σ0 τ0 σ' τ' ∧ τ'.1 0 23 = zI n ∧ τ'.1 0 29 = zI nb)) := by
    intro e1 e2
    refine ⟨fal σ1 1, flw τ1 1, ?_, Or.inr ⟨?_, bad 1 (Or.inl rfl)⟩⟩
    · unfold F_X12_readName
      rw [if_pos h7, if_neg e2, m22]
    · rw [if_neg e1]
      exact c_wrap σ1 1
  rcases tk0.2 with ⟨a, b⟩ | ⟨a, b, l, l1, l2, l3⟩ | ⟨a, b, -⟩ | ⟨a, b, -⟩ | ⟨a, b, -⟩ | ⟨a, b⟩
  · exact no (by rw [a]; decide) (by rw [b]; decide)
  · obtain ⟨r1, r2, r3⟩ := c_res σ1
    obtain ⟨o1, o2, o3⟩ := m_isOwn tk h7
    rw [if_pos a, r2, Option.bind_some]
    unfold F_X12_readName
    rw [if_pos h7, if_pos b, o2, Option.bind_some]
    by_cases own : Own σ1
    · have e1 : r1 = 1 := by
        rcases r3 with r3 | r3
        · exact absurd own r3.2
        · exact r3.1
      have e2 : o1 = 1 := by
        rcases o3 with o3 | o3
        · exact absurd own o3.2
        · exact o3.1
      rw [e1, e2, if_neg (show ¬ (1 : Int32) = 0 by decide), if_neg (show ¬ (1 : Int32) = 0 by decide), m22]
      exact ⟨fal σ1 1, flw τ1 1, rfl, Or.inr ⟨c_wrap σ1 1, bad 1 (Or.inl rfl)⟩⟩
    · have e1 : r1 = 0 := by
        rcases r3 with r3 | r3
        · exact r3.1
        · exact absurd r3.2 own
      have e2 : o1 = 0 := by
        rcases o3 with o3 | o3
        · exact o3.1
        · exact absurd o3.2 own
      rw [e1, e2, if_pos (show (0 : Int32) = 0 from rfl), if_pos (show (0 : Int32) = 0 from rfl), rf, Option.bind_some, if_pos TC.1]
      have fin3 : F_X9_hasName σ1 t (σ1.2.1 2 6) = some 1 → F_X12_readName_29 FU τ1 (zI i) 0 = some (flw τ1 3) → ∃ σ' τ', F_X12_readName_29 FU τ1 (zI i) 0 = some τ' ∧ ((((F_X9_hasName σ1 t (σ1.2.1 2 6)).bind fun x4 => if x4 = 0 then (((some t).bind fun x5 => if (shC x5).1 = 9 then (if ib (zI i) 8 then ((sw (sj σ1 (x5 + 1) (ix (zI i)) (σ1.2.1 2 6)) fun s1 => ((F_X6_advance s1).bind fun x6 => some (1, x6)))) else none) else none)) else (((F_X6_fail σ1 3).bind fun x7 => if x7.1 = 0 ∨ x7.1 = 1 then (some (x7.1, x7.2)) else none))) = some ((1 : Int32), σ') ∧ Sy T z t L σ0 τ0 σ' τ' n nb n nb ∧ Dt σ' τ' t n nb ∧ ∃ l, Lts l ∧ σ'.2.1 (t + 1) i = Int64.ofInt (nmV l) ∧ τ'.2.1 8 i = Int64.ofInt (nmV l)) ∨ (((F_X9_hasName σ1 t (σ1.2.1 2 6)).bind fun x4 => if x4 = 0 then (((some t).bind fun x5 => if (shC x5).1 = 9 then (if ib (zI i) 8 then ((sw (sj σ1 (x5 + 1) (ix (zI i)) (σ1.2.1 2 6)) fun s1 => ((F_X6_advance s1).bind fun x6 => some (1, x6)))) else none) else none)) else (((F_X6_fail σ1 3).bind fun x7 => if x7.1 = 0 ∨ x7.1 = 1 then (some (x7.1, x7.2)) else none))) = some ((0 : Int32), σ') ∧ Bad t σ0 τ0 σ' τ' ∧ τ'.1 0 23 = zI n ∧ τ'.1 0 29 = zI nb)) := by
        intro f1 f2
        refine ⟨fal σ1 3, flw τ1 3, f2, Or.inr ⟨?_, bad 3 (Or.inr (Or.inr (Or.inl rfl)))⟩⟩
        rw [f1, Option.bind_some, if_neg (show ¬ (1 : Int32) = 0 by decide)]
        exact c_wrap σ1 3
      have hw : τ1.2.1 0 13 = σ1.2.1 2 6 := l3.trans l2.symm
      rcases j_has2 (w := σ1.2.1 2 6) TC d1.1 hn.1 c1 c3 h7 hw (zI i) n 0 FU FU (by omega) (FU_lt (by omega)) (FU_lt (by omega)) with ⟨f1, f2⟩ | ⟨f1, f2⟩
      · exact fin3 f1 f2
      · rcases j_has31 (w := σ1.2.1 2 6) TC d1.1 hn.2 c2 c4 h7 hw (zI i) nb 0 FU FU (by omega) (FU_lt (by omega)) (FU_lt (by omega)) with ⟨g1, g2⟩ | ⟨g1, g2⟩
        · exact fin3 (f1.trans g1) (f2.trans g2)
        · have f3 : F_X9_hasName σ1 t (σ1.2.1 2 6) = some 0 := f1.trans g1
          have f4 : F_X12_readName_29 FU τ1 (zI i) 0 = F_X12_readName_113 τ1 (zI i) := f2.trans g2
          rw [f3, f4, Option.bind_some, if_pos (show (0 : Int32) = 0 from rfl), Option.bind_some, if_pos TC.1]
          unfold F_X12_readName_113 F_X12_readName_130
          rw [if_pos h7]
          simp (disch := omega) only [zI_ib, zI_ix, Int.toNat_natCast]
          rw [if_pos (show (0 : Int) ≤ (i : Int) ∧ (i : Int) < ((8 : Nat) : Int) by omega), if_pos (show (0 : Int) ≤ (i : Int) ∧ (i : Int) < ((8 : Nat) : Int) by omega), sw, sw, hw]
          have s2 : Sy T z t L σ0 τ0 (sj σ1 (t + 1) i (σ1.2.1 2 6)) (sj τ1 8 i (σ1.2.1 2 6)) n nb n nb := Sy_wr a3 (FC_sj σ1 _) (FM_sj τ1 _) (fun _ _ _ => rfl) (by rw [sj_rd, if_neg (by omega)]) (fun _ _ _ => rfl) (by rw [sj_rd, if_neg (by omega)]) ⟨c1, c2, c3, c4⟩
          have d2 : Dt (sj σ1 (t + 1) i (σ1.2.1 2 6)) (sj τ1 8 i (σ1.2.1 2 6)) t n nb := by
            obtain ⟨⟨p1, p2⟩, p3, p4, p5, p6⟩ := d1
            refine ⟨⟨fun k hk => ?_, fun k hk => ?_⟩, p3, p4, p5, p6⟩
            · rw [sj_rd, if_neg (by omega), sj_rd, if_neg (by omega)]; exact p1 k hk
            · rw [sj_rd, if_neg (by omega), sj_rd, if_neg (by omega)]; exact p2 k hk
          obtain ⟨σ2, τ2, b1, b2, b3, b4, b5⟩ := Sy_adv s2
          rw [b1, b2, Option.bind_some, Option.bind_some]
          refine ⟨σ2, τ2, rfl, Or.inl ⟨rfl, b3, Dt_rd ht d2 b4 b5, l, l1, ?_, ?_⟩⟩
          · rw [b4.2.1 _ _ (by omega), sj_rd, if_pos ⟨rfl, rfl⟩]; exact l2
          · rw [b5.2.1 _ _ (by omega), sj_rd, if_pos ⟨rfl, rfl⟩]; exact l2
  · exact no (by rw [a]; decide) (by rw [b]; decide)
  · exact no (by rw [a]; decide) (by rw [b]; decide)
  · exact no (by rw [a]; decide) (by rw [b]; decide)
  · exact no (by rw [a]; decide) (by rw [b]; decide)
