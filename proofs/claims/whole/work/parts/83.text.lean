/-! A TEXT -/
def s8 (τ : Sto) (x : Int32) : Sto := si (si (si (si (si (si (si τ 0 5 x) 0 4 0) 0 6 0) 0 7 0) 0 23 0) 0 29 0) 0 30 0
def s7 (σ : Sto) (x : Int32) (t : Nat) : Sto := sr (si (si (si (si (si (sr σ 2 0 (some 1)) 2 1 x) 2 2 0) 2 7 0) 2 8 0) 2 9 0) 2 10 (some t)
theorem j_read {σC s1 : Sto} {t z m : Nat} (ht : t = 102 ∨ t = 110) (m1 : m ≤ 500) (zm : z ≤ m) (m4 : ∀ i, i < m → σC.1 1 i = s1.1 1 i ∧ ∃ b : Int, 0 ≤ b ∧ b ≤ 255 ∧ σC.1 1 i = zI b) : ∃ σ0 τ0 y σ', F_X6_readText σC 1 (zI z) t = some (y, σ') ∧ TxO t σ0 τ0 y σ' (F_X12_text_60 FU (s8 s1 (zI z)) 0) ∧ (∀ a k, a ≠ 2 → ¬ (t ≤ a ∧ a ≤ t + 4) → σ0.1 a k = σC.1 a k) ∧ σ0.2.1 = σC.2.1 ∧ (∀ a k, a ≠ 2 → σ0.2.2 a k = σC.2.2 a k) ∧ σ0.1 2 8 = 0 ∧ (∀ a k, ¬ (a = 0 ∧ (k = 4 ∨ k = 5 ∨ k = 6 ∨ k = 7 ∨ k = 23 ∨ k = 29 ∨ k = 30)) → a ≠ 3 → τ0.1 a k = s1.1 a k) ∧ τ0.1 0 4 = 0 ∧ τ0.2 = s1.2 := by
  have TC := tC_t ht
  obtain ⟨σ0, a1, a2, a3, a4, a5, a6, a7⟩ := c_clear TC (s7 σC (zI z) t)
  obtain ⟨τ', b1, b2, b3, b4, b5⟩ := m_t60 534 0 FU (s8 s1 (zI z)) (by omega) (FU_lt (by omega))
  have f7 : ∀ a k, a ≠ 2 → (s7 σC (zI z) t).1 a k = σC.1 a k := fun a k q => by
    unfold s7
    rw [sr_1]
    simp (disch := omega) only [si_rd, if_neg]
    rfl
  have f0 : ∀ k, σ0.1 2 k = (s7 σC (zI z) t).1 2 k := fun k => a2 2 k (by omega)
  have r0 : σ0.2.2 2 0 = some 1 := by
    rw [a7]
    unfold s7
    rw [sr_rd, if_neg (by omega)]
    show (sr σC 2 0 (some 1)).2.2 2 0 = some 1
    rw [sr_rd, if_pos ⟨rfl, rfl⟩]
  have r10 : (s7 σC (zI z) t).2.2 2 10 = some t := by
    unfold s7
    rw [sr_rd, if_pos ⟨rfl, rfl⟩]
  have ro : ∀ a k, a ≠ 2 → (s7 σC (zI z) t).2.2 a k = σC.2.2 a k := fun a k q => by
    unfold s7
    rw [sr_rd, if_neg (by omega)]
    show (sr σC 2 0 (some 1)).2.2 a k = _
    rw [sr_rd, if_neg (by omega)]
  have e1 : σ0.1 2 1 = zI z := by
    rw [f0]; unfold s7
    rw [sr_1, si_rd, if_neg (by omega), si_rd, if_neg (by omega), si_rd, if_neg (by omega), si_rd, if_neg (by omega), si_rd, if_pos ⟨rfl, rfl⟩]
  have e2 : σ0.1 2 2 = 0 := by
    rw [f0]; unfold s7
    rw [sr_1, si_rd, if_neg (by omega), si_rd, if_neg (by omega), si_rd, if_neg (by omega), si_rd, if_pos ⟨rfl, rfl⟩]
  have e7 : σ0.1 2 7 = 0 := by
    rw [f0]; unfold s7
    rw [sr_1, si_rd, if_neg (by omega), si_rd, if_neg (by omega), si_rd, if_pos ⟨rfl, rfl⟩]
  have e8 : σ0.1 2 8 = 0 := by
    rw [f0]; unfold s7
    rw [sr_1, si_rd, if_neg (by omega), si_rd, if_pos ⟨rfl, rfl⟩]
  have g0 : ∀ a k, a ≠ 3 → (si τ' 3 30 10).1 a k = (s8 s1 (zI z)).1 a k := fun a k q => by rw [si_rd, if_neg (by omega)]; exact b2 a k q
  have go : ∀ a k, ¬ (a = 0 ∧ (k = 4 ∨ k = 5 ∨ k = 6 ∨ k = 7 ∨ k = 23 ∨ k = 29 ∨ k = 30)) → (s8 s1 (zI z)).1 a k = s1.1 a k := fun a k q => by
    unfold s8
    simp (disch := omega) only [si_rd, if_neg]
  have hP : Ps (fun i => (σC.1 1 i).toInt) z σ0 (si τ' 3 30 10) 0 := by
    refine ⟨⟨r0, by omega, by omega⟩, ⟨e1, e2⟩, ⟨?_, ?_, ?_⟩, fun i hi => ?_⟩
    · rw [g0 _ _ (by omega)]; unfold s8
      rw [si_rd, if_neg (by omega), si_rd, if_neg (by omega), si_rd, if_neg (by omega), si_rd, if_neg (by omega), si_rd, if_neg (by omega), si_rd, if_neg (by omega), si_rd, if_pos ⟨rfl, rfl⟩]
    · rw [g0 _ _ (by omega)]; unfold s8
      rw [si_rd, if_neg (by omega), si_rd, if_neg (by omega), si_rd, if_neg (by omega), si_rd, if_neg (by omega), si_rd, if_pos ⟨rfl, rfl⟩]; rfl
    · rw [g0 _ _ (by omega)]; unfold s8
      rw [si_rd, if_neg (by omega), si_rd, if_neg (by omega), si_rd, if_neg (by omega), si_rd, if_pos ⟨rfl, rfl⟩]
    · obtain ⟨p1, b, p2, p3, p4⟩ := m4 i (by omega)
      have e : (σC.1 1 i).toInt = b := by rw [p4, zI_to (by omega) (by omega)]
      rw [a2 1 i (by omega), f7 1 i (by omega), g0 1 i (by omega), go 1 i (by omega), ← p1, zI_toInt]
      exact ⟨rfl, rfl, show 0 ≤ (σC.1 1 i).toInt by omega, show (σC.1 1 i).toInt ≤ 255 by omega⟩
  have m30 : ∀ k, k < 534 → (si τ' 3 30 10).1 3 k = if k = 30 then 10 else 0 := fun k hk => by
    rw [si_rd]
    by_cases e : k = 30
    · rw [if_pos ⟨rfl, e⟩, if_pos e]
    · rw [if_neg (by omega), if_neg e]; exact b3 k (by omega) hk
  obtain ⟨y, σ', r1, r2⟩ := j_first ht hP (by rw [a7]; exact r10) a3 a4 (by
      rw [g0 _ _ (by omega)]; unfold s8
      rw [si_rd, if_neg (by omega), si_rd, if_neg (by omega), si_rd, if_pos ⟨rfl, rfl⟩]) (by
      rw [g0 _ _ (by omega)]; unfold s8
      rw [si_rd, if_neg (by omega), si_rd, if_pos ⟨rfl, rfl⟩]) e7 (by
      rw [g0 _ _ (by omega)]; unfold s8
      rw [si_rd, if_pos ⟨rfl, rfl⟩]) a5 a6 m30
  refine ⟨σ0, si τ' 3 30 10, y, σ', ?_, ?_, fun a k q1 q2 => ?_, ?_, fun a k q => ?_, e8, fun a k q1 q2 => ?_, ?_, ?_⟩
  · unfold F_X6_readText
    rw [sw, sw, sw, sw, sw, sw, sw]
    show (((s7 σC (zI z) t).2.2 2 10).bind _) = _
    rw [r10, Option.bind_some, if_pos TC.1]
    show ((F_X9_clear (s7 σC (zI z) t) t).bind _) = _
    rw [a1, Option.bind_some]
    exact r1
  · have b1' : F_X12_text_60 FU (s8 s1 (zI z)) 0 = _ := b1
    rw [b1']
    exact r2
  · rw [a2 a k q2]; exact f7 a k q1
  · rw [a7]; rfl
  · rw [a7]; exact ro a k q
  · rw [g0 a k q2]; exact go a k q1
  · rw [g0 _ _ (by omega)]; unfold s8
    rw [si_rd, if_neg (by omega), si_rd, if_neg (by omega), si_rd, if_neg (by omega), si_rd, if_neg (by omega), si_rd, if_neg (by omega), si_rd, if_pos ⟨rfl, rfl⟩]
  · show τ'.2 = s1.2
    rw [b5]; rfl
/-- the state stays, whatever is read into the spare text -/
theorem Ld_sp {σC σM τC τM : Sto} {n nb t h ac : Nat} {μ : Nat → Int} {un : Nat → Nat → Int} (hC : ∀ a k, ((a = 0 ∧ k = 13) ∨ (3 ≤ a ∧ a ≤ 62) ∨ (t ≤ a ∧ a ≤ t + 7) ∨ 118 ≤ a) → τC.1 a k = σC.1 a k) (hC1 : τC.2.1 (t + 1) = σC.2.1 (t + 1)) (hC2 : τC.2.2 0 11 = σC.2.2 0 11) (hM : ∀ a k, ((a = 0 ∧ (k = 22 ∨ k = 24 ∨ k = 25 ∨ k = 28)) ∨ a = 2 ∨ a = 5 ∨ a = 6 ∨ a = 9 ∨ a = 10) → τM.1 a k = σM.1 a k) (hM1 : τM.2.1 7 = σM.2.1 7) (H : Ld σC σM n nb t h ac μ un) : Ld τC τM n nb t h ac μ un := by
  obtain ⟨h1, h2, h3, h4, h5, h6, h7, h8, h9, h10⟩ := H
  have ht := h1.2.2.2
  have kp : ∀ y a o (P : Nat → Int), (3 ≤ y ∧ y ≤ 58 ∨ 118 ≤ y) → (a = 5 ∨ a = 6) → Kp σC σM y a o n μ P → Kp τC τM y a o n μ P := by
    intro y a o P hy ha hk
    obtain ⟨k1, k2, k3, k4⟩ := hk
    refine ⟨fun k hk => ?_, YR_fr k2 (fun a k i1 i2 => hC a k (by omega)), ?_, k4⟩
    · rw [hM _ _ (by omega)]; exact k1 k hk
    · rw [hC _ _ (by omega)]; exact k3
  refine ⟨?_, h2, ?_, ⟨YR_fr h4.1 (fun a k i1 i2 => hC a k (by omega)), ?_⟩, TR_fr h5 (fun a k i1 i2 => hC a k (by omega)), ?_, ?_, ?_, ?_, ?_⟩
  · rw [hC _ _ (by omega), hM _ _ (by omega), hC2]
    exact h1
  · refine ⟨fun k hk => ?_, ?_⟩
    · rw [hM _ _ (by omega)]; exact h3.1 k hk
    · rw [hM _ _ (by omega)]; exact h3.2
  · rw [hC _ _ (by omega)]; exact h4.2
  · obtain ⟨p1, p2, p3, p4⟩ := h6
    refine ⟨p1, by rw [hC _ _ (by omega)]; exact p2, by rw [hM _ _ (by omega)]; exact p3, fun b hb s hs => ?_⟩
    rw [hC _ _ (by omega), hM _ _ (by omega)]
    exact p4 b hb s hs
  · unfold Nm at *
    rw [hC1, hM1]
    exact h7
  · intro y hy
    obtain ⟨p1, p2⟩ := h8 y hy
    refine ⟨fun j hj => ?_, ?_⟩
    · rw [hC _ _ (by omega), hM _ _ (by omega)]; exact p1 j hj
    · rw [hC _ _ (by omega), hC _ _ (by omega), hM _ _ (by omega)]; exact p2
  · refine ⟨h9.1, h9.2.1, by rw [hC _ _ (by omega)]; exact h9.2.2.1, by rw [hC _ _ (by omega)]; exact h9.2.2.2.1, by rw [hM _ _ (by omega)]; exact h9.2.2.2.2.1, fun i hi => ?_, fun i j i1 i2 => ?_⟩
    · obtain ⟨P, p1, p2, p3⟩ := h9.2.2.2.2.2.1 i hi
      refine ⟨P, kp _ _ _ _ (by omega) (by omega) p1, p2, fun k hk => ?_⟩
      rw [hM _ _ (by omega), hM _ _ (by omega)]
      exact p3 k hk
    · rw [hM _ _ (by omega), hM _ _ (by omega)]
      exact h9.2.2.2.2.2.2 i j i1 i2
  · intro i hi
    rw [hC _ _ (by omega), hM _ _ (by omega)]
    rcases h10 i hi with p | ⟨p1, p2, P, p3, p4⟩
    · exact Or.inl p
    · refine Or.inr ⟨p1, p2, P, kp _ _ _ _ (by omega) (by omega) p3, fun y hy => ?_⟩
      obtain ⟨q1, q2⟩ := p4 y hy
      refine ⟨fun j hj => ?_, ?_⟩
      · rw [hC _ _ (by omega), hM _ _ (by omega)]; exact q1 j hj
      · rw [hC _ _ (by omega), hC _ _ (by omega), hM _ _ (by omega)]; exact q2
theorem ve_to {x y : Int32} {m : Int} (h : VE x y m) (hm : m ≤ 999) : x = zI y.toInt ∧ 0 ≤ y.toInt ∧ y.toInt ≤ m := by
  obtain ⟨v, v1, v2, v3, v4⟩ := h
  rw [zI_toInt, v3, v4, zI_to (by omega) (by omega)]
  exact ⟨rfl, v1, v2⟩
