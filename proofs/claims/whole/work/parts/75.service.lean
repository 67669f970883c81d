/-! READING: A SERVICE -/
def cvo (w : Nat) : Nat := if w = 0 then 0 else w + 1
theorem cvo_lt {u w : Nat} (h : u < w) : cvo u < cvo w := by
  unfold cvo
  by_cases e : u = 0
  · rw [if_pos e, if_neg (by omega)]; omega
  · rw [if_neg e, if_neg (by omega)]; omega
theorem cvo_le {w : Nat} (h : w < 6) : cvo w ≤ 6 := by
  unfold cvo
  by_cases e : w = 0
  · rw [if_pos e]; omega
  · rw [if_neg e]; omega
def mxV (w : Nat) : Int := if w = 1 then 200 else if w = 2 then 9 else if w = 3 then 20 else if w = 4 then 99 else if w = 5 then 99 else 20
theorem mxV_bd {w : Nat} (hw : w < 6) : 0 ≤ mxV w ∧ mxV w ≤ 999 := by
  unfold mxV
  rcases (show w = 0 ∨ w = 1 ∨ w = 2 ∨ w = 3 ∨ w = 4 ∨ w = 5 by omega) with rfl | rfl | rfl | rfl | rfl | rfl <;> decide
theorem c_mostV (σ : Sto) {w : Nat} (hw : w < 6) : F_X9_mostOfValue σ (zI w) = some (zI (mxV w)) := by
  unfold F_X9_mostOfValue mxV
  rcases (show w = 0 ∨ w = 1 ∨ w = 2 ∨ w = 3 ∨ w = 4 ∨ w = 5 by omega) with rfl | rfl | rfl | rfl | rfl | rfl <;> decide
/-- a service's numbers, as far as they are read -/
def DtS (σ τ : Sto) (t n w : Nat) : Prop := DtN σ τ t (n + 1) 0 ∧ (∀ s, s < n → VE (σ.1 (t + 2) s) (τ.1 3 (7 * s)) 20 ∧ τ.1 3 (7 * s + 1) = τ.1 3 (7 * s) ∧ VE (σ.1 (t + 2) (4 + s)) (τ.1 3 (7 * s + 2)) 200 ∧ VE (σ.1 (t + 2) (8 + s)) (τ.1 3 (7 * s + 3)) 9 ∧ VE (σ.1 (t + 2) (12 + s)) (τ.1 3 (7 * s + 4)) 20 ∧ VE (σ.1 (t + 2) (16 + s)) (τ.1 3 (7 * s + 5)) 99 ∧ VE (σ.1 (t + 2) (20 + s)) (τ.1 3 (7 * s + 6)) 99) ∧ (∀ s, n < s → s < 4 → σ.1 (t + 2) (16 + s) = 0 ∧ σ.1 (t + 2) (20 + s) = 0) ∧ (w ≤ 4 → σ.1 (t + 2) (16 + n) = 0 ∧ σ.1 (t + 2) (20 + n) = 0) ∧ (∀ u, u < w → VE (σ.1 (t + 2) (4 * u + n)) (τ.1 3 (7 * n + cvo u)) (mxV u)) ∧ DtR σ τ t ∧ DtM σ τ
theorem DtS_rd {σ τ σ' τ' : Sto} {t n w : Nat} (ht : t = 102 ∨ t = 110) (h : DtS σ τ t n w) (f : RdC σ σ') (g : RdM τ τ') : DtS σ' τ' t n w := by
  obtain ⟨h1, h2, h3, h4, h5, h6, h7⟩ := h
  have f2 : σ'.1 (t + 2) = σ.1 (t + 2) := funext fun k => f.1 _ k (by omega)
  have g3 : τ'.1 3 = τ.1 3 := funext fun k => g.1 _ k (by omega)
  refine ⟨DtN_fr h1 (funext fun k => f.2.1 _ k (by omega)) (funext fun k => g.2.1 _ k (by omega)), ?_, ?_, ?_, ?_, DtR_fr h6 (funext fun k => f.1 _ k (by omega)) (fun k _ _ => g.1 _ k (by omega)), DtM_fr h7 (f.1 _ _ (by omega)) (g.1 _ _ (by omega))⟩
  · rw [f2, g3]; exact h2
  · rw [f2]; exact h3
  · rw [f2]; exact h4
  · rw [f2, g3]; exact h5
theorem DtS_st {σ τ : Sto} {t n w : Nat} {v : Int} (ht : t = 102 ∨ t = 110) (hn : n < 4) (hw : w < 6) (h : DtS σ τ t n w) (v1 : 0 ≤ v) (v2 : v ≤ mxV w) : DtS (si σ (t + 2) (4 * w + n) (zI v)) (si τ 3 (7 * n + cvo w) (zI v)) t n (w + 1) := by
  obtain ⟨h1, h2, h3, h4, h5, h6, h7⟩ := h
  have cw := cvo_le hw
  refine ⟨h1, fun s hs => ?_, fun s s1 s2 => ?_, fun k => ?_, fun u hu => ?_, DtR_fr h6 (funext fun k => by rw [si_rd, if_neg (by omega)]) (fun k _ _ => by rw [si_rd, if_neg (by omega)]), DtM_fr h7 (by rw [si_rd, if_neg (by omega)]) (by rw [si_rd, if_neg (by omega)])⟩
  · simp (disch := omega) only [si_rd, if_neg]
    exact h2 s hs
  · simp (disch := omega) only [si_rd, if_neg]
    exact h3 s s1 s2
  · simp (disch := omega) only [si_rd, if_neg]
    exact h4 (by omega)
  · by_cases e : u = w
    · subst e
      rw [si_rd, if_pos ⟨rfl, rfl⟩, si_rd, if_pos ⟨rfl, rfl⟩]
      exact ⟨v, v1, v2, rfl, rfl⟩
    · have := cvo_lt (show u < w by omega)
      rw [si_rd, if_neg (by omega), si_rd, if_neg (by omega)]
      exact h5 u (by omega)
theorem m_told1 {τ τ1 : Sto} {k : Nat} {a b : Int32} (h : F_X12_isWord τ k = some 1) (g : F_X12_goOn τ = some τ1) : F_X12_readTold τ k a b = F_X12_readWhole τ1 a b := by
  unfold F_X12_readTold F_X12_needs F_X12_needs_13
  rw [h, Option.bind_some, if_neg (by decide), g, Option.bind_some, Option.bind_some]
  cases F_X12_readWhole τ1 a b <;> rfl
theorem m_told0 {τ : Sto} {k : Nat} {a b : Int32} (h : F_X12_isWord τ k = some 0) (h7 : τ.1 0 7 = 0) : F_X12_readTold τ k a b = some ((flw τ 1).1 0 12, flw τ 1) := by
  have hz := flw_Fz τ (f := 1) (Or.inl rfl)
  unfold F_X12_readTold F_X12_needs F_X12_needs_13
  rw [h, Option.bind_some, if_pos rfl, m_flaw h7, Option.bind_some, z_goOn hz, Option.bind_some, Option.bind_some, z_whole hz, Option.bind_some]
theorem j_val {T : Nat → Int} {z t L n w e : Nat} {σ0 τ0 σ τ : Sto} (h : Sy T z t L σ0 τ0 σ τ (n + 1) 0 n 0) (d : DtS σ τ t n w) (hn : n < 4) (hw : w < 6) (he : w ≤ e ∧ e ≤ 5) (j : Nat) : (∃ σ' τ1 v, F_X6_readValues_3 (j + 1) σ (zI n) (zI e) (zI w) = F_X6_readValues_3 j σ' (zI n) (zI e) (zI ((w + 1 : Nat) : Int)) ∧ F_X12_readTold τ (w + 1) 0 (zI (mxV w)) = some (v, τ1) ∧ Sy T z t L σ0 τ0 σ' (si τ1 3 (7 * n + cvo w) v) (n + 1) 0 n 0 ∧ DtS σ' (si τ1 3 (7 * n + cvo w) v) t n (w + 1)) ∨ (∃ σ' τ1 y, F_X6_readValues_3 (j + 1) σ (zI n) (zI e) (zI w) = some (0, σ') ∧ F_X12_readTold τ (w + 1) 0 (zI (mxV w)) = some (y, τ1) ∧ Bad t σ0 τ0 σ' τ1) := by
  have ht := h.2.2.1.2
  have TC := tC_t ht
  have h7 := Sy_7 h
  have mW := m_isW h.2.1 h7 (k := w + 1) (by omega)
  have cW := c_isW σ (k := w + 1) (by omega)
  rcases wB_01 σ (w + 1) with b | b
  · rw [b] at mW cW
    refine Or.inr ⟨fal σ 1, flw τ 1, _, ?_, m_told0 mW h7, j_fail h (Or.inl rfl)⟩
    rw [F_X6_readValues_3, if_neg (zltF (by omega)), c_wv σ hw, Option.bind_some, cW, Option.bind_some, if_pos rfl, c_wrap]
  · rw [b] at mW cW
    obtain ⟨σ1, τ1, a1, a2, a3, a4, a5⟩ := Sy_adv h
    have d1 := DtS_rd ht d a4 a5
    have mT := m_told1 (a := 0) (b := zI (mxV w)) mW a2
    have eC : F_X6_readValues_3 (j + 1) σ (zI n) (zI e) (zI w) = ((F_X6_readWhole σ1 (zI (mxV w))).bind fun x5 => if x5.1 = 0 then (some (0, x5.2)) else (((x5.2.2.2 2 10).bind fun x6 => if (shC x6).1 = 9 then (if ib ((zI w * 4) + zI n) 24 then ((sw (si x5.2 (x6 + 2) (ix ((zI w * 4) + zI n)) (x5.2.1 2 5)) fun s1 => ((F_X6_advance s1).bind fun x7 => F_X6_readValues_3 j x7 (zI n) (zI e) (zI w + 1)))) else none) else none))) := by
      rw [F_X6_readValues_3, if_neg (zltF (by omega)), c_wv σ hw, Option.bind_some, cW, Option.bind_some, if_neg (by decide), a1, Option.bind_some, c_mostV σ1 hw, Option.bind_some]
    rcases j_whole a3 (mxV_bd hw) with ⟨v, v1, v2, v3, v4, v5⟩ | ⟨f, f1, f2, y, f3⟩
    · obtain ⟨σ2, τ2, e1, e2, e3, e4, e5⟩ := j_st (c := t + 2) (k := 4 * w + n) (r := 3) (kk := 7 * n + cvo w) (zI v) a3 (by omega) (Or.inl rfl)
      rw [e2, Option.bind_some] at v5
      refine Or.inl ⟨σ2, τ2, zI v, ?_, mT.trans v5, e3, DtS_rd ht (DtS_st ht hn hw d1 v1 v2) e4 e5⟩
      rw [eC, v4, Option.bind_some, if_neg (show ¬ (1 : Int32) = 0 by decide), a3.2.2.1.1, Option.bind_some, if_pos TC.1, v3, zl4, zI_mul, zI_add]
      simp (disch := omega) only [zI_ib, zI_ix]
      rw [if_pos (by omega), sw, show ((w : Int) * 4 + n).toNat = 4 * w + n by omega, e1, Option.bind_some, zI_s1]
    · refine Or.inr ⟨fal σ1 f, flw τ1 f, y, ?_, mT.trans f3, j_fail a3 ?_⟩
      · rw [eC, f2, Option.bind_some, if_pos (show (0 : Int32) = 0 from rfl)]
      · rcases f1 with f1 | f1
        · exact Or.inl f1
        · exact Or.inr (Or.inl f1)
/-! the reference's reading of a service, step by step -/
def R4 (τ : Sto) (i : Int32) : Option Sto := ((F_X12_isWord τ 5).bind fun x7 => if x7 = 0 then (F_X12_readService_148 τ i x7 (i + 5) 0) else (((F_X12_readTold τ 5 0 99).bind fun x8 => F_X12_readService_148 x8.2 i x7 (i + 5) x8.1)))
def R3 (τ : Sto) (i : Int32) : Option Sto := ((F_X12_readTold τ 4 0 20).bind fun x6 => if ib (i + 4) 534 then ((sw (si x6.2 3 (ix (i + 4)) x6.1) fun s4 => R4 s4 i)) else none)
def R2 (τ : Sto) (i : Int32) : Option Sto := ((F_X12_readTold τ 3 0 9).bind fun x5 => if ib (i + 3) 534 then ((sw (si x5.2 3 (ix (i + 3)) x5.1) fun s3 => R3 s3 i)) else none)
def R1 (τ : Sto) (i : Int32) : Option Sto := ((F_X12_readTold τ 2 0 200).bind fun x4 => if ib (i + 2) 534 then ((sw (si x4.2 3 (ix (i + 2)) x4.1) fun s2 => R2 s2 i)) else none)
def R0 (τ : Sto) (i : Int32) : Option Sto := ((F_X12_readTold τ 1 0 20).bind fun x3 => if ib (i + 0) 534 then ((sw (si x3.2 3 (ix (i + 0)) x3.1) fun s1 => R1 s1 i)) else none)
theorem m_s20 (τ : Sto) : F_X12_readService_20 τ = ((F_X12_goOn τ).bind fun x1 => ((F_X12_readName x1 (x1.1 0 23)).bind fun x2 => if x2.1 0 7 ≤ 0 then R0 x2 (7 * (x2.1 0 23)) else (some x2))) := rfl
theorem m_R {k : Nat} {τ τ1 : Sto} {y a b o : Int32} {n w : Nat} {K : Sto → Option Sto} (hn : n < 4) (hw : w < 6) (ho : o = zI (cvo w : Nat)) (h : F_X12_readTold τ k a b = some (y, τ1)) : ((F_X12_readTold τ k a b).bind fun x3 => if ib (zI ((7 * n : Nat) : Int) + o) 534 then ((sw (si x3.2 3 (ix (zI ((7 * n : Nat) : Int) + o)) x3.1) fun s1 => K s1)) else none) = K (si τ1 3 (7 * n + cvo w) y) := by
  have cw := cvo_le hw
  rw [h, Option.bind_some, ho, zI_add]
  simp (disch := omega) only [zI_ib, zI_ix]
  rw [if_pos (by omega), sw, show (((7 * n : Nat) : Int) + (cvo w : Nat)).toNat = 7 * n + cvo w by omega]
theorem m_174 {τ : Sto} {n : Nat} {y : Int32} (hn : n < 4) : F_X12_readService_174 τ (zI ((7 * n : Nat) : Int)) (zI ((7 * n : Nat) : Int) + 6) y = (if (τ.1 0 7) = 0 then some (si (si (si τ 3 (7 * n + 6) y) 3 (7 * n + 1) (τ.1 3 (7 * n))) 0 23 (τ.1 0 23 + 1)) else some (si (si τ 3 (7 * n + 6) y) 3 (7 * n + 1) (τ.1 3 (7 * n)))) := by
  unfold F_X12_readService_174
  have e6 : zI ((7 * n : Nat) : Int) + 6 = zI ((7 * n + 6 : Nat) : Int) := by rw [zl6, zI_add]; rfl
  have e1 : zI ((7 * n : Nat) : Int) + 1 = zI ((7 * n + 1 : Nat) : Int) := by rw [zl1, zI_add]; rfl
  have e0 : zI ((7 * n : Nat) : Int) + 0 = zI ((7 * n : Nat) : Int) := by rw [zl0, zI_add, Int.add_zero]
  rw [e6, e1, e0]
  simp (disch := omega) only [zI_ib, zI_ix, Int.toNat_natCast]
  rw [if_pos (by omega), sw, if_pos (by omega), if_pos (by omega), sw]
  simp (disch := omega) only [si_rd, if_neg]
  rfl
theorem z_174 {τ : Sto} (h : Fz τ) {n : Nat} (hn : n < 4) (y : Int32) : ∃ τ', F_X12_readService_174 τ (zI ((7 * n : Nat) : Int)) (zI ((7 * n : Nat) : Int) + 6) y = some τ' ∧ Zk τ τ' := by
  rw [m_174 hn, if_neg h.1]
  exact ⟨_, rfl, Zk_tr (Zk_si _ _ (by omega)) (Zk_si _ _ (by omega))⟩
theorem m_148 {τ : Sto} {n : Nat} {i2 y : Int32} (hn : n < 4) : F_X12_readService_148 τ (zI ((7 * n : Nat) : Int)) i2 (zI ((7 * n : Nat) : Int) + 5) y = (if i2 = 0 then (F_X12_readService_174 (si τ 3 (7 * n + 5) y) (zI ((7 * n : Nat) : Int)) (zI ((7 * n : Nat) : Int) + 6) 0) else (((F_X12_readTold (si τ 3 (7 * n + 5) y) 6 0 99).bind fun x1 => F_X12_readService_174 x1.2 (zI ((7 * n : Nat) : Int)) (zI ((7 * n : Nat) : Int) + 6) x1.1))) := by
  unfold F_X12_readService_148
  rw [zl5, zI_add]
  simp (disch := omega) only [zI_ib, zI_ix]
  rw [if_pos (by omega), sw, show (((7 * n : Nat) : Int) + 5).toNat = 7 * n + 5 by omega]
theorem z_148 {τ : Sto} (h : Fz τ) {n : Nat} (hn : n < 4) (i2 y : Int32) : ∃ τ', F_X12_readService_148 τ (zI ((7 * n : Nat) : Int)) i2 (zI ((7 * n : Nat) : Int) + 5) y = some τ' ∧ Zk τ τ' := by
  have k1 : Zk τ (si τ 3 (7 * n + 5) y) := Zk_si τ _ (by omega)
  have h1 := Zk_Fz k1 h
  rw [m_148 hn]
  by_cases q : i2 = 0
  · rw [if_pos q]
    obtain ⟨τ', a, b⟩ := z_174 h1 hn 0
    exact ⟨τ', a, Zk_tr k1 b⟩
  · rw [if_neg q, z_told h1, Option.bind_some]
    obtain ⟨τ', a, b⟩ := z_174 h1 hn ((si τ 3 (7 * n + 5) y).1 0 12)
    exact ⟨τ', a, Zk_tr k1 b⟩
theorem z_R4 {τ : Sto} (h : Fz τ) {n : Nat} (hn : n < 4) : ∃ τ', R4 τ (zI ((7 * n : Nat) : Int)) = some τ' ∧ Zk τ τ' := by
  unfold R4
  rw [z_isW h, Option.bind_some, if_pos rfl]
  exact z_148 h hn 0 0
theorem z_R3 {τ : Sto} (h : Fz τ) {n : Nat} (hn : n < 4) : ∃ τ', R3 τ (zI ((7 * n : Nat) : Int)) = some τ' ∧ Zk τ τ' := by
  have k1 : Zk τ (si τ 3 (7 * n + cvo 3) (τ.1 0 12)) := Zk_si τ _ (by omega)
  obtain ⟨τ', a, b⟩ := z_R4 (Zk_Fz k1 h) hn
  exact ⟨τ', (m_R hn (by decide) (by decide) (z_told h 4 0 20)).trans a, Zk_tr k1 b⟩
theorem z_R2 {τ : Sto} (h : Fz τ) {n : Nat} (hn : n < 4) : ∃ τ', R2 τ (zI ((7 * n : Nat) : Int)) = some τ' ∧ Zk τ τ' := by
  have k1 : Zk τ (si τ 3 (7 * n + cvo 2) (τ.1 0 12)) := Zk_si τ _ (by omega)
  obtain ⟨τ', a, b⟩ := z_R3 (Zk_Fz k1 h) hn
  exact ⟨τ', (m_R hn (by decide) (by decide) (z_told h 3 0 9)).trans a, Zk_tr k1 b⟩
theorem z_R1 {τ : Sto} (h : Fz τ) {n : Nat} (hn : n < 4) : ∃ τ', R1 τ (zI ((7 * n : Nat) : Int)) = some τ' ∧ Zk τ τ' := by
  have k1 : Zk τ (si τ 3 (7 * n + cvo 1) (τ.1 0 12)) := Zk_si τ _ (by omega)
  obtain ⟨τ', a, b⟩ := z_R2 (Zk_Fz k1 h) hn
  exact ⟨τ', (m_R hn (by decide) (by decide) (z_told h 2 0 200)).trans a, Zk_tr k1 b⟩
theorem z_s20 {τ : Sto} (h : Fz τ) : F_X12_readService_20 τ = some τ := by
  rw [m_s20, z_goOn h, Option.bind_some, z_name h, Option.bind_some, if_neg h.2]
