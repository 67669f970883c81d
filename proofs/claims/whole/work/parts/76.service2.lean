/-! READING: A SERVICE, BOTH SIDES -/
theorem j_send {T : Nat → Int} {z t L n : Nat} {σ0 τ0 σ τ : Sto} {v : Int32} (hn : n < 4) (h : Sy T z t L σ0 τ0 σ (si τ 3 (7 * n + 6) v) (n + 1) 0 n 0) (d : DtS σ (si τ 3 (7 * n + 6) v) t n 6) : ∃ τ', F_X12_readService_174 τ (zI ((7 * n : Nat) : Int)) (zI ((7 * n : Nat) : Int) + 6) v = some τ' ∧ Sy T z t L σ0 τ0 σ τ' (n + 1) 0 (n + 1) 0 ∧ Dt σ τ' t (n + 1) 0 := by
  have h7 := Sy_7 h
  obtain ⟨c1, c2, c3, c4⟩ := h.2.2.2.1
  rw [si_rd, if_neg (by omega)] at h7
  have c3' : τ.1 0 23 = zI n := by rw [← c3, si_rd, if_neg (by omega)]
  rw [m_174 hn, if_pos h7, c3', zI_s1]
  have e0 : τ.1 3 (7 * n) = (si τ 3 (7 * n + 6) v).1 3 (7 * n) := by rw [si_rd, if_neg (by omega)]
  rw [e0]
  generalize si τ 3 (7 * n + 6) v = s at *
  refine ⟨_, rfl, ?_, ?_⟩
  · refine Sy_wr h (FC_rfl _ _) (FM_tr (FM_si s _ (by omega)) (FM_si _ _ (by omega))) (fun _ _ _ => rfl) rfl (fun k _ _ => by rw [si_rd, if_neg (by omega), si_rd, if_neg (by omega)]) rfl ⟨c1, c2, by rw [si_rd, if_pos ⟨rfl, rfl⟩], ?_⟩
    rw [si_rd, if_neg (by omega), si_rd, if_neg (by omega)]
    exact c4
  · obtain ⟨h1, h2, h3, h4, h5, h6, h8⟩ := d
    refine ⟨h1, ⟨fun u hu => ?_, fun u u1 u2 => h3 u (by omega) u2⟩, DtR_fr h6 rfl (fun k _ _ => by rw [si_rd, if_neg (by omega), si_rd, if_neg (by omega)]), fun b hb => by omega, DtM_fr h8 rfl (by rw [si_rd, if_neg (by omega), si_rd, if_neg (by omega)])⟩
    by_cases e : u = n
    · subst e
      have a0 := h5 0 (by omega)
      have a1 := h5 1 (by omega)
      have a2 := h5 2 (by omega)
      have a3 := h5 3 (by omega)
      have a4 := h5 4 (by omega)
      have a5 := h5 5 (by omega)
      refine ⟨?_, ?_, ?_, ?_, ?_, ?_, ?_⟩
      · rw [si_rd, if_neg (by omega), si_rd, if_neg (by omega)]
        rw [show 4 * 0 + u = u by omega] at a0
        exact a0
      · rw [si_rd, if_neg (by omega), si_rd, if_pos ⟨rfl, rfl⟩, si_rd, if_neg (by omega), si_rd, if_neg (by omega)]
      · rw [si_rd, if_neg (by omega), si_rd, if_neg (by omega)]
        exact a1
      · rw [si_rd, if_neg (by omega), si_rd, if_neg (by omega)]
        exact a2
      · rw [si_rd, if_neg (by omega), si_rd, if_neg (by omega)]
        exact a3
      · rw [si_rd, if_neg (by omega), si_rd, if_neg (by omega)]
        exact a4
      · rw [si_rd, if_neg (by omega), si_rd, if_neg (by omega)]
        exact a5
    · simp (disch := omega) only [si_rd, if_neg]
      exact h2 u (by omega)
theorem j_noq {T : Nat → Int} {z t L n : Nat} {σ0 τ0 σ τ : Sto} (hn : n < 4) (h : Sy T z t L σ0 τ0 σ τ (n + 1) 0 n 0) (d : DtS σ τ t n 4) : Sy T z t L σ0 τ0 σ (si (si τ 3 (7 * n + 5) 0) 3 (7 * n + 6) 0) (n + 1) 0 n 0 ∧ DtS σ (si (si τ 3 (7 * n + 5) 0) 3 (7 * n + 6) 0) t n 6 := by
  obtain ⟨c1, c2, c3, c4⟩ := h.2.2.2.1
  refine ⟨Sy_wr h (FC_rfl _ _) (FM_tr (FM_si τ _ (by omega)) (FM_si _ _ (by omega))) (fun _ _ _ => rfl) rfl (fun k _ _ => by rw [si_rd, if_neg (by omega), si_rd, if_neg (by omega)]) rfl ⟨c1, c2, by rw [si_rd, if_neg (by omega), si_rd, if_neg (by omega)]; exact c3, by rw [si_rd, if_neg (by omega), si_rd, if_neg (by omega)]; exact c4⟩, ?_⟩
  obtain ⟨h1, h2, h3, h4, h5, h6, h8⟩ := d
  have z4 := h4 (by omega)
  refine ⟨h1, fun s hs => ?_, h3, fun k => by omega, fun u hu => ?_, DtR_fr h6 rfl (fun k _ _ => by rw [si_rd, if_neg (by omega), si_rd, if_neg (by omega)]), DtM_fr h8 rfl (by rw [si_rd, if_neg (by omega), si_rd, if_neg (by omega)])⟩
  · simp (disch := omega) only [si_rd, if_neg]
    exact h2 s hs
  · rcases (show u < 4 ∨ u = 4 ∨ u = 5 by omega) with e | rfl | rfl
    · have := cvo_lt e
      have e4 : cvo 4 = 5 := rfl
      rw [si_rd, if_neg (by omega), si_rd, if_neg (by omega)]
      exact h5 u e
    · show VE (σ.1 (t + 2) (16 + n)) ((si (si τ 3 (7 * n + 5) 0) 3 (7 * n + 6) 0).1 3 (7 * n + 5)) (mxV 4)
      rw [si_rd, if_neg (by omega), si_rd, if_pos ⟨rfl, rfl⟩, z4.1]
      exact ⟨0, by decide, by decide, rfl, rfl⟩
    · show VE (σ.1 (t + 2) (20 + n)) ((si (si τ 3 (7 * n + 5) 0) 3 (7 * n + 6) 0).1 3 (7 * n + 6)) (mxV 5)
      rw [si_rd, if_pos ⟨rfl, rfl⟩, z4.2]
      exact ⟨0, by decide, by decide, rfl, rfl⟩
/-- the class's rest of a service, behind its name -/
def CS5 (x5 : Sto) (i : Int32) : Option (Int32 × Sto) := ((F_X6_isWord x5 5).bind fun x6 => if x6 = 0 then (F_X6_readService_83 x5 ) else (((F_X6_readValues x5 i 4 5).bind fun x7 => if x7.1 = 0 then (some (0, x7.2)) else (F_X6_readService_83 x7.2 ))))
def CS1 (s1 : Sto) (i : Int32) : Option (Int32 × Sto) := ((F_X6_readValues s1 i 0 3).bind fun x5 => if x5.1 = 0 then (some (0, x5.2)) else (CS5 x5.2 i))
theorem FU5 : ∃ f, FU = f + 1 + 1 + 1 + 1 + 1 := ⟨5995, rfl⟩
theorem j_q {T : Nat → Int} {z t L n : Nat} {σ0 τ0 σ τ : Sto} (hn : n < 4) (h : Sy T z t L σ0 τ0 σ τ (n + 1) 0 n 0) (d : DtS σ τ t n 4) : ∃ x σ' τ', CS5 σ (zI n) = some (x, σ') ∧ R4 τ (zI ((7 * n : Nat) : Int)) = some τ' ∧ ((x = 1 ∧ Sy T z t L σ0 τ0 σ' τ' (n + 1) 0 (n + 1) 0 ∧ Dt σ' τ' t (n + 1) 0) ∨ (x = 0 ∧ Bad t σ0 τ0 σ' τ')) := by
  have h7 := Sy_7 h
  unfold CS5 R4
  rw [c_isW σ (show 5 < 12 by omega), m_isW h.2.1 h7 (show 5 < 12 by omega), Option.bind_some, Option.bind_some]
  rcases wB_01 σ 5 with b | b
  · rw [b, if_pos rfl, if_pos rfl, m_148 hn, if_pos rfl]
    obtain ⟨s1, s2⟩ := j_noq hn h d
    obtain ⟨τ', e1, e2, e3⟩ := j_send hn s1 s2
    rw [e1]
    exact ⟨1, σ, τ', rfl, rfl, Or.inl ⟨rfl, e2, e3⟩⟩
  · rw [b, if_neg (show ¬ (1 : Int32) = 0 by decide), if_neg (show ¬ (1 : Int32) = 0 by decide)]
    obtain ⟨f, hf⟩ := FU5
    have eV : F_X6_readValues σ (zI n) 4 5 = F_X6_readValues_3 (f + 1 + 1 + 1 + 1 + 1) σ (zI n) (zI ((5 : Nat) : Int)) (zI ((4 : Nat) : Int)) := by
      unfold F_X6_readValues
      rw [hf]
      rfl
    rcases j_val (w := 4) (e := 5) h d hn (by omega) (by omega) (f + 1 + 1 + 1 + 1) with ⟨σ1, τ1, v1, p1, p2, p3, p4⟩ | ⟨σ1, τ1, y, p1, p2, p3⟩
    · have p2' : F_X12_readTold τ 5 0 99 = some (v1, τ1) := p2
      have p3' : Sy T z t L σ0 τ0 σ1 (si τ1 3 (7 * n + 5) v1) (n + 1) 0 n 0 := p3
      have p4' : DtS σ1 (si τ1 3 (7 * n + 5) v1) t n 5 := p4
      rw [p2', Option.bind_some, m_148 hn, if_neg (show ¬ (1 : Int32) = 0 by decide)]
      rcases j_val (w := 5) (e := 5) p3' p4' hn (by omega) (by omega) (f + 1 + 1 + 1) with ⟨σ2, τ2, v2, r1, r2, r3, r4⟩ | ⟨σ2, τ2, y, r1, r2, r3⟩
      · have r2' : F_X12_readTold (si τ1 3 (7 * n + 5) v1) 6 0 99 = some (v2, τ2) := r2
        have r3' : Sy T z t L σ0 τ0 σ2 (si τ2 3 (7 * n + 6) v2) (n + 1) 0 n 0 := r3
        have r4' : DtS σ2 (si τ2 3 (7 * n + 6) v2) t n 6 := r4
        obtain ⟨τ', e1, e2, e3⟩ := j_send hn r3' r4'
        have eE : F_X6_readValues σ (zI n) 4 5 = some (1, σ2) := by
          rw [eV, p1, r1, F_X6_readValues_3, if_pos (zltT (by omega))]
        rw [r2', Option.bind_some, e1, eE, Option.bind_some, if_neg (show ¬ (1 : Int32) = 0 by decide)]
        exact ⟨1, σ2, τ', rfl, rfl, Or.inl ⟨rfl, e2, e3⟩⟩
      · have r2' : F_X12_readTold (si τ1 3 (7 * n + 5) v1) 6 0 99 = some (y, τ2) := r2
        obtain ⟨τ', e1, e2⟩ := z_174 (Bad_Fz r3) hn y
        rw [r2', Option.bind_some, e1, eV, p1, r1, Option.bind_some, if_pos (show (0 : Int32) = 0 from rfl)]
        exact ⟨0, σ2, τ', rfl, rfl, Or.inr ⟨rfl, Bad_z r3 e2⟩⟩
    · have p2' : F_X12_readTold τ 5 0 99 = some (y, τ1) := p2
      obtain ⟨τ', e1, e2⟩ := z_148 (Bad_Fz p3) hn 1 y
      rw [p2', Option.bind_some, e1, eV, p1, Option.bind_some, if_pos (show (0 : Int32) = 0 from rfl)]
      exact ⟨0, σ1, τ', rfl, rfl, Or.inr ⟨rfl, Bad_z p3 e2⟩⟩
theorem j_vals {T : Nat → Int} {z t L n : Nat} {σ0 τ0 σ τ : Sto} (hn : n < 4) (h : Sy T z t L σ0 τ0 σ τ (n + 1) 0 n 0) (d : DtS σ τ t n 0) : ∃ x σ' τ', CS1 σ (zI n) = some (x, σ') ∧ R0 τ (zI ((7 * n : Nat) : Int)) = some τ' ∧ ((x = 1 ∧ Sy T z t L σ0 τ0 σ' τ' (n + 1) 0 (n + 1) 0 ∧ Dt σ' τ' t (n + 1) 0) ∨ (x = 0 ∧ Bad t σ0 τ0 σ' τ')) := by
  unfold CS1
  obtain ⟨f, hf⟩ := FU5
  have eV : F_X6_readValues σ (zI n) 0 3 = F_X6_readValues_3 (f + 1 + 1 + 1 + 1 + 1) σ (zI n) (zI ((3 : Nat) : Int)) (zI ((0 : Nat) : Int)) := by
    unfold F_X6_readValues
    rw [hf]
    rfl
  rcases j_val (w := 0) (e := 3) h d hn (by omega) (by omega) (f + 1 + 1 + 1 + 1) with ⟨σ1, τ1, v1, a1, a2, a3, a4⟩ | ⟨σ1, τ1, y, a1, a2, a3⟩
  · have m0 : R0 τ (zI ((7 * n : Nat) : Int)) = R1 (si τ1 3 (7 * n + cvo 0) v1) (zI ((7 * n : Nat) : Int)) := m_R (w := 0) (K := fun s => R1 s (zI ((7 * n : Nat) : Int))) hn (by omega) rfl (show F_X12_readTold τ 1 0 20 = some (v1, τ1) from a2)
    rcases j_val (w := 1) (e := 3) a3 a4 hn (by omega) (by omega) (f + 1 + 1 + 1) with ⟨σ2, τ2, v2, b1, b2, b3, b4⟩ | ⟨σ2, τ2, y, b1, b2, b3⟩
    · have m1 : R1 (si τ1 3 (7 * n + cvo 0) v1) (zI ((7 * n : Nat) : Int)) = R2 (si τ2 3 (7 * n + cvo 1) v2) (zI ((7 * n : Nat) : Int)) := m_R (w := 1) (K := fun s => R2 s (zI ((7 * n : Nat) : Int))) hn (by omega) rfl (show F_X12_readTold (si τ1 3 (7 * n + cvo 0) v1) 2 0 200 = some (v2, τ2) from b2)
      rcases j_val (w := 2) (e := 3) b3 b4 hn (by omega) (by omega) (f + 1 + 1) with ⟨σ3, τ3, v3, c1, c2, c3, c4⟩ | ⟨σ3, τ3, y, c1, c2, c3⟩
      · have m2 : R2 (si τ2 3 (7 * n + cvo 1) v2) (zI ((7 * n : Nat) : Int)) = R3 (si τ3 3 (7 * n + cvo 2) v3) (zI ((7 * n : Nat) : Int)) := m_R (w := 2) (K := fun s => R3 s (zI ((7 * n : Nat) : Int))) hn (by omega) rfl (show F_X12_readTold (si τ2 3 (7 * n + cvo 1) v2) 3 0 9 = some (v3, τ3) from c2)
        rcases j_val (w := 3) (e := 3) c3 c4 hn (by omega) (by omega) (f + 1) with ⟨σ4, τ4, v4, d1, d2, d3, d4⟩ | ⟨σ4, τ4, y, d1, d2, d3⟩
        · have m3 : R3 (si τ3 3 (7 * n + cvo 2) v3) (zI ((7 * n : Nat) : Int)) = R4 (si τ4 3 (7 * n + cvo 3) v4) (zI ((7 * n : Nat) : Int)) := m_R (w := 3) (K := fun s => R4 s (zI ((7 * n : Nat) : Int))) hn (by omega) rfl (show F_X12_readTold (si τ3 3 (7 * n + cvo 2) v3) 4 0 20 = some (v4, τ4) from d2)
          have eE : F_X6_readValues σ (zI n) 0 3 = some (1, σ4) := by
            rw [eV, a1, b1, c1, d1, F_X6_readValues_3, if_pos (zltT (by omega))]
          rw [eE, Option.bind_some, if_neg (show ¬ (1 : Int32) = 0 by decide), m0, m1, m2, m3]
          exact j_q hn d3 d4
        · have m3 : R3 (si τ3 3 (7 * n + cvo 2) v3) (zI ((7 * n : Nat) : Int)) = R4 (si τ4 3 (7 * n + cvo 3) y) (zI ((7 * n : Nat) : Int)) := m_R (w := 3) (K := fun s => R4 s (zI ((7 * n : Nat) : Int))) hn (by omega) rfl (show F_X12_readTold (si τ3 3 (7 * n + cvo 2) v3) 4 0 20 = some (y, τ4) from d2)
          have k1 : Zk τ4 (si τ4 3 (7 * n + cvo 3) y) := Zk_si τ4 _ (by omega)
          obtain ⟨τ', e1, e2⟩ := z_R4 (Zk_Fz k1 (Bad_Fz d3)) hn
          rw [eV, a1, b1, c1, d1, Option.bind_some, if_pos (show (0 : Int32) = 0 from rfl), m0, m1, m2, m3, e1]
          exact ⟨0, σ4, τ', rfl, rfl, Or.inr ⟨rfl, Bad_z d3 (Zk_tr k1 e2)⟩⟩
      · have m2 : R2 (si τ2 3 (7 * n + cvo 1) v2) (zI ((7 * n : Nat) : Int)) = R3 (si τ3 3 (7 * n + cvo 2) y) (zI ((7 * n : Nat) : Int)) := m_R (w := 2) (K := fun s => R3 s (zI ((7 * n : Nat) : Int))) hn (by omega) rfl (show F_X12_readTold (si τ2 3 (7 * n + cvo 1) v2) 3 0 9 = some (y, τ3) from c2)
        have k1 : Zk τ3 (si τ3 3 (7 * n + cvo 2) y) := Zk_si τ3 _ (by omega)
        obtain ⟨τ', e1, e2⟩ := z_R3 (Zk_Fz k1 (Bad_Fz c3)) hn
        rw [eV, a1, b1, c1, Option.bind_some, if_pos (show (0 : Int32) = 0 from rfl), m0, m1, m2, e1]
        exact ⟨0, σ3, τ', rfl, rfl, Or.inr ⟨rfl, Bad_z c3 (Zk_tr k1 e2)⟩⟩
    · have m1 : R1 (si τ1 3 (7 * n + cvo 0) v1) (zI ((7 * n : Nat) : Int)) = R2 (si τ2 3 (7 * n + cvo 1) y) (zI ((7 * n : Nat) : Int)) := m_R (w := 1) (K := fun s => R2 s (zI ((7 * n : Nat) : Int))) hn (by omega) rfl (show F_X12_readTold (si τ1 3 (7 * n + cvo 0) v1) 2 0 200 = some (y, τ2) from b2)
      have k1 : Zk τ2 (si τ2 3 (7 * n + cvo 1) y) := Zk_si τ2 _ (by omega)
      obtain ⟨τ', e1, e2⟩ := z_R2 (Zk_Fz k1 (Bad_Fz b3)) hn
      rw [eV, a1, b1, Option.bind_some, if_pos (show (0 : Int32) = 0 from rfl), m0, m1, e1]
      exact ⟨0, σ2, τ', rfl, rfl, Or.inr ⟨rfl, Bad_z b3 (Zk_tr k1 e2)⟩⟩
  · have m0 : R0 τ (zI ((7 * n : Nat) : Int)) = R1 (si τ1 3 (7 * n + cvo 0) y) (zI ((7 * n : Nat) : Int)) := m_R (w := 0) (K := fun s => R1 s (zI ((7 * n : Nat) : Int))) hn (by omega) rfl (show F_X12_readTold τ 1 0 20 = some (y, τ1) from a2)
    have k1 : Zk τ1 (si τ1 3 (7 * n + cvo 0) y) := Zk_si τ1 _ (by omega)
    obtain ⟨τ', e1, e2⟩ := z_R1 (Zk_Fz k1 (Bad_Fz a3)) hn
    rw [eV, a1, Option.bind_some, if_pos (show (0 : Int32) = 0 from rfl), m0, e1]
    exact ⟨0, σ1, τ', rfl, rfl, Or.inr ⟨rfl, Bad_z a3 (Zk_tr k1 e2)⟩⟩
theorem j_service {T : Nat → Int} {z t L n nb : Nat} {σ0 τ0 σ τ : Sto} (h : Sy T z t L σ0 τ0 σ τ n nb n nb) (d : Dt σ τ t n nb) (hn : n ≤ 4 ∧ nb ≤ 4) : ∃ x σ' τ', F_X6_readService σ = some (x, σ') ∧ F_X12_readService τ = some τ' ∧ ((x = 1 ∧ ∃ m mb, (m ≤ 4 ∧ mb ≤ 4) ∧ Sy T z t L σ0 τ0 σ' τ' m mb m mb ∧ Dt σ' τ' t m mb) ∨ (x = 0 ∧ Bad t σ0 τ0 σ' τ')) := by
  have ht := h.2.2.1.2
  have rf := h.2.2.1.1
  have TC := tC_t ht
  have h7 := Sy_7 h
  obtain ⟨c1, c2, c3, c4⟩ := h.2.2.2.1
  have m15 : F_X12_readService_15 τ = some (flw τ 4) := by
    unfold F_X12_readService_15
    rw [m_flaw h7, Option.bind_some, z_s20 (flw_Fz τ (Or.inr (Or.inr (Or.inr (Or.inl rfl)))))]
  have bad := j_fail h (f := 4) (Or.inr (Or.inr (Or.inr (Or.inl rfl))))
  by_cases q : n = 4 ∨ 0 < nb
  · refine ⟨0, fal σ 4, flw τ 4, ?_, ?_, Or.inr ⟨rfl, bad⟩⟩
    · unfold F_X6_readService F_X6_readService_23
      rw [rf, Option.bind_some, if_pos TC.1, c1, Option.bind_some, if_pos TC.1, c2, c_wrap]
      by_cases q4 : n = 4
      · rw [if_pos (show (4 : Int32) ≤ zI n from by rw [zl4]; exact zleT (by omega))]
      · rw [if_neg (show ¬ (4 : Int32) ≤ zI n from by rw [zl4]; exact zleF (by omega)), if_neg (show ¬ zI nb ≤ 0 from by rw [zl0]; exact zleF (by omega))]
    · unfold F_X12_readService
      rw [c3, c4, m15]
      by_cases q4 : n = 4
      · rw [if_pos (show zI n = (4 : Int32) from by rw [q4]; decide)]
      · rw [if_neg (show ¬ zI n = (4 : Int32) from by rw [zl4, zI_eq (by omega) (by omega) (by omega) (by omega)]; omega), if_neg (show ¬ zI nb ≤ 0 from by rw [zl0]; exact zleF (by omega))]
  · obtain rfl : nb = 0 := by omega
    have hn4 : n < 4 := by omega
    have hC : F_X6_readService σ = ((F_X6_readName σ (zI n)).bind fun x3 => if x3.1 = 0 then (some (0, x3.2)) else (((x3.2.2.2 2 10).bind fun x4 => if (shC x4).1 = 9 then ((sw (si x3.2 x4 0 ((x3.2.1 x4 0) + 1)) fun s1 => CS1 s1 (zI n))) else none))) := by
      unfold F_X6_readService
      rw [rf, Option.bind_some, if_pos TC.1, c1, if_neg (show ¬ (4 : Int32) ≤ zI n from by rw [zl4]; exact zleF (by omega)), Option.bind_some, if_pos TC.1, c2, if_pos (show zI ((0 : Nat) : Int) ≤ 0 from by decide)]
      rfl
    have hM : F_X12_readService τ = F_X12_readService_20 τ := by
      unfold F_X12_readService
      rw [c3, c4, if_neg (show ¬ zI n = (4 : Int32) from by rw [zl4, zI_eq (by omega) (by omega) (by omega) (by omega)]; omega), if_pos (show zI ((0 : Nat) : Int) ≤ 0 from by decide)]
    obtain ⟨τ1, n1, n2, n3, σ2, τ2, n4, nn⟩ := j_name h d hn (i := n) (Or.inl ⟨rfl, hn4⟩)
    rw [hC, hM, m_s20, n1, Option.bind_some, n2, n4, Option.bind_some]
    rcases nn with ⟨k1, k2, k3, l, l1, l2, l3⟩ | ⟨k1, k2, k3, k4⟩
    · obtain ⟨g1, g2, g3, g4⟩ := k2.2.2.2.1
      have s3 : Sy T z t L σ0 τ0 (si σ2 t 0 (zI ((n + 1 : Nat) : Int))) τ2 (n + 1) 0 n 0 := Sy_wr k2 (FC_si σ2 _ (by omega)) (FM_rfl _) (fun k _ _ => by rw [si_rd, if_neg (by omega)]) rfl (fun _ _ _ => rfl) rfl ⟨by rw [si_rd, if_pos ⟨rfl, rfl⟩], by rw [si_rd, if_neg (by omega)]; exact g2, g3, g4⟩
      have d3 : DtS (si σ2 t 0 (zI ((n + 1 : Nat) : Int))) τ2 t n 0 := by
        obtain ⟨p1, p2, p3, p4, p5⟩ := k3
        have f2 : (si σ2 t 0 (zI ((n + 1 : Nat) : Int))).1 (t + 2) = σ2.1 (t + 2) := funext fun k => by rw [si_rd, if_neg (by omega)]
        refine ⟨⟨fun i hi => ?_, fun i hi => by omega⟩, ?_, ?_, ?_, fun u hu => by omega, DtR_fr p3 (funext fun k => by rw [si_rd, if_neg (by omega)]) (fun _ _ _ => rfl), DtM_fr p5 (by rw [si_rd, if_neg (by omega)]) rfl⟩
        · by_cases e : i = n
          · rw [e]; exact ⟨l, l1, l2, l3⟩
          · exact p1.1 i (by omega)
        · rw [f2]; exact p2.1
        · rw [f2]; exact fun u u1 u2 => p2.2 u (by omega) u2
        · rw [f2]; exact fun _ => p2.2 n (by omega) hn4
      have e7 : (7 : Int32) * zI n = zI ((7 * n : Nat) : Int) := by rw [zl7, zI_mul]; rfl
      rw [k1, Option.bind_some, if_neg (show ¬ (1 : Int32) = 0 by decide), k2.2.2.1.1, Option.bind_some, if_pos TC.1, g1, zI_s1, sw, Sy_7 k2, if_pos (Int32.le_refl _), g3, e7]
      obtain ⟨x, σ', τ', e1, e2, e3⟩ := j_vals hn4 s3 d3
      refine ⟨x, σ', τ', e1, e2, ?_⟩
      rcases e3 with ⟨e3, e4, e5⟩ | e3
      · exact Or.inl ⟨e3, n + 1, 0, by omega, e4, e5⟩
      · exact Or.inr e3
    · rw [k1, Option.bind_some, if_pos (show (0 : Int32) = 0 from rfl), if_neg (Bad_Fz k2).2]
      exact ⟨0, σ2, τ2, rfl, rfl, Or.inr ⟨rfl, k2⟩⟩
