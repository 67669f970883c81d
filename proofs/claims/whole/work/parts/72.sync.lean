/-! READING: WHAT IS READ -/
def VE (x y : Int32) (m : Int) : Prop := ∃ v : Int, 0 ≤ v ∧ v ≤ m ∧ x = zI v ∧ y = zI v
def DtN (σ τ : Sto) (t n nb : Nat) : Prop := (∀ i, i < n → ∃ l, Lts l ∧ σ.2.1 (t + 1) i = Int64.ofInt (nmV l) ∧ τ.2.1 8 i = Int64.ofInt (nmV l)) ∧ ∀ i, i < nb → σ.2.1 (t + 1) (4 + i) = τ.2.1 8 (4 + i)
def DtV (σ τ : Sto) (t n : Nat) : Prop := (∀ s, s < n → VE (σ.1 (t + 2) s) (τ.1 3 (7 * s)) 20 ∧ τ.1 3 (7 * s + 1) = τ.1 3 (7 * s) ∧ VE (σ.1 (t + 2) (4 + s)) (τ.1 3 (7 * s + 2)) 200 ∧ VE (σ.1 (t + 2) (8 + s)) (τ.1 3 (7 * s + 3)) 9 ∧ VE (σ.1 (t + 2) (12 + s)) (τ.1 3 (7 * s + 4)) 20 ∧ VE (σ.1 (t + 2) (16 + s)) (τ.1 3 (7 * s + 5)) 99 ∧ VE (σ.1 (t + 2) (20 + s)) (τ.1 3 (7 * s + 6)) 99) ∧ ∀ s, n ≤ s → s < 4 → σ.1 (t + 2) (16 + s) = 0 ∧ σ.1 (t + 2) (20 + s) = 0
def mxR (r : Nat) : Int := if r = 2 then 100 else if r = 3 then 99 else 50
def DtR (σ τ : Sto) (t : Nat) : Prop := (∀ r, r < 4 → VE (σ.1 (t + 4) r) (τ.1 3 (28 + r)) (mxR r)) ∧ τ.1 3 32 = 0 ∧ τ.1 3 33 = 0
def DtU (σ τ : Sto) (t n nb : Nat) : Prop := ∀ b, b < nb → ∀ s, s < n → VE (σ.1 (t + 3) (4 * b + s)) (τ.1 11 (4 * b + s)) 99
def DtM (σ τ : Sto) : Prop := ∃ m : Nat, m < 16 ∧ σ.1 2 7 = zI m ∧ τ.1 0 30 = zI m
def Dt (σ τ : Sto) (t n nb : Nat) : Prop := DtN σ τ t n nb ∧ DtV σ τ t n ∧ DtR σ τ t ∧ DtU σ τ t n nb ∧ DtM σ τ
theorem DtN_fr {σ τ σ' τ' : Sto} {t n nb : Nat} (h : DtN σ τ t n nb) (f : σ'.2.1 (t + 1) = σ.2.1 (t + 1)) (g : τ'.2.1 8 = τ.2.1 8) : DtN σ' τ' t n nb := by
  unfold DtN at *
  rw [f, g]
  exact h
theorem DtV_fr {σ τ σ' τ' : Sto} {t n : Nat} (h : DtV σ τ t n) (f : σ'.1 (t + 2) = σ.1 (t + 2)) (g : τ'.1 3 = τ.1 3) : DtV σ' τ' t n := by
  unfold DtV at *
  rw [f, g]
  exact h
theorem DtR_fr {σ τ σ' τ' : Sto} {t : Nat} (h : DtR σ τ t) (f : σ'.1 (t + 4) = σ.1 (t + 4)) (g : ∀ k, 28 ≤ k → k ≤ 33 → τ'.1 3 k = τ.1 3 k) : DtR σ' τ' t := by
  refine ⟨fun r hr => ?_, ?_, ?_⟩
  · rw [f, g (28 + r) (by omega) (by omega)]; exact h.1 r hr
  · rw [g 32 (by omega) (by omega)]; exact h.2.1
  · rw [g 33 (by omega) (by omega)]; exact h.2.2
theorem DtU_fr {σ τ σ' τ' : Sto} {t n nb : Nat} (h : DtU σ τ t n nb) (f : σ'.1 (t + 3) = σ.1 (t + 3)) (g : τ'.1 11 = τ.1 11) : DtU σ' τ' t n nb := by
  unfold DtU at *
  rw [f, g]
  exact h
theorem DtM_fr {σ τ σ' τ' : Sto} (h : DtM σ τ) (f : σ'.1 2 7 = σ.1 2 7) (g : τ'.1 0 30 = τ.1 0 30) : DtM σ' τ' := by
  unfold DtM at *
  rw [f, g]
  exact h
theorem Dt_rd {σ τ σ' τ' : Sto} {t n nb : Nat} (ht : t = 102 ∨ t = 110) (h : Dt σ τ t n nb) (f : RdC σ σ') (g : RdM τ τ') : Dt σ' τ' t n nb := by
  obtain ⟨h1, h2, h3, h4, h5⟩ := h
  refine ⟨DtN_fr h1 (funext fun k => f.2.1 _ k (by omega)) (funext fun k => g.2.1 _ k (by omega)), DtV_fr h2 (funext fun k => f.1 _ k (by omega)) (funext fun k => g.1 _ k (by omega)), DtR_fr h3 (funext fun k => f.1 _ k (by omega)) (fun k _ _ => g.1 _ k (by omega)), DtU_fr h4 (funext fun k => f.1 _ k (by omega)) (funext fun k => g.1 _ k (by omega)), DtM_fr h5 (f.1 _ _ (by omega)) (g.1 _ _ (by omega))⟩
/-- what reading a text leaves as it was -/
def FC (σ σ' : Sto) (t : Nat) : Prop := (∀ a k, ¬ (a = 2 ∧ 2 ≤ k) → ¬ (t ≤ a ∧ a ≤ t + 4) → σ'.1 a k = σ.1 a k) ∧ (∀ a k, a ≠ 2 → a ≠ t + 1 → σ'.2.1 a k = σ.2.1 a k) ∧ σ'.2.2 = σ.2.2
def FM (τ τ' : Sto) : Prop := (∀ a k, ¬ (a = 0 ∧ ((6 ≤ k ∧ k ≤ 12) ∨ k = 23 ∨ k = 29 ∨ k = 30)) → a ≠ 3 → a ≠ 11 → τ'.1 a k = τ.1 a k) ∧ (∀ a k, a ≠ 0 → a ≠ 8 → τ'.2.1 a k = τ.2.1 a k) ∧ τ'.2.2 = τ.2.2
theorem FC_rfl (σ : Sto) (t : Nat) : FC σ σ t := ⟨fun _ _ _ _ => rfl, fun _ _ _ _ => rfl, rfl⟩
theorem FM_rfl (σ : Sto) : FM σ σ := ⟨fun _ _ _ _ _ => rfl, fun _ _ _ _ => rfl, rfl⟩
theorem FC_tr {σ τ υ : Sto} {t : Nat} (h : FC σ τ t) (k : FC τ υ t) : FC σ υ t := ⟨fun a j q1 q2 => (k.1 a j q1 q2).trans (h.1 a j q1 q2), fun a j q1 q2 => (k.2.1 a j q1 q2).trans (h.2.1 a j q1 q2), k.2.2.trans h.2.2⟩
theorem FM_tr {σ τ υ : Sto} (h : FM σ τ) (k : FM τ υ) : FM σ υ := ⟨fun a j q1 q2 q3 => (k.1 a j q1 q2 q3).trans (h.1 a j q1 q2 q3), fun a j q1 q2 => (k.2.1 a j q1 q2).trans (h.2.1 a j q1 q2), k.2.2.trans h.2.2⟩
theorem FC_rd {σ σ' : Sto} {t : Nat} (h : RdC σ σ') : FC σ σ' t := ⟨fun a k q1 q2 => h.1 a k (by omega), fun a k q1 q2 => h.2.1 a k (by omega), h.2.2⟩
theorem FM_rd {σ σ' : Sto} (h : RdM σ σ') : FM σ σ' := ⟨fun a k q1 q2 q3 => h.1 a k (by omega), fun a k q1 q2 => h.2.1 a k (by omega), h.2.2⟩
theorem FC_si (σ : Sto) {t a k : Nat} (x : Int32) (h : (a = 2 ∧ 2 ≤ k) ∨ (t ≤ a ∧ a ≤ t + 4)) : FC σ (si σ a k x) t := ⟨fun b j q1 q2 => by rw [si_rd, if_neg (by omega)], fun _ _ _ _ => rfl, rfl⟩
theorem FM_si (σ : Sto) {a k : Nat} (x : Int32) (h : (a = 0 ∧ ((6 ≤ k ∧ k ≤ 12) ∨ k = 23 ∨ k = 29 ∨ k = 30)) ∨ a = 3 ∨ a = 11) : FM σ (si σ a k x) := ⟨fun b j q1 q2 q3 => by rw [si_rd, if_neg (by omega)], fun _ _ _ _ => rfl, rfl⟩
theorem FC_sj (σ : Sto) {t k : Nat} (x : Int64) : FC σ (sj σ (t + 1) k x) t := ⟨fun _ _ _ _ => rfl, fun b j q1 q2 => by rw [sj_rd, if_neg (by omega)], rfl⟩
theorem FM_sj (σ : Sto) {k : Nat} (x : Int64) : FM σ (sj σ 8 k x) := ⟨fun _ _ _ _ _ => rfl, fun b j q1 q2 => by rw [sj_rd, if_neg (by omega)], rfl⟩
/-- both go on alike -/
def Sy (T : Nat → Int) (z t L : Nat) (σ0 τ0 σ τ : Sto) (n nb n' nb' : Nat) : Prop := (∃ p, Ps T z σ τ p ∧ L ≤ p ∧ (σ.1 2 3 ≠ 0 → L < p) ∧ σ.1 2 8 = σ0.1 2 8) ∧ TkR σ τ ∧ (σ.2.2 2 10 = some t ∧ (t = 102 ∨ t = 110)) ∧ (σ.1 t 0 = zI n ∧ σ.1 t 1 = zI nb ∧ τ.1 0 23 = zI n' ∧ τ.1 0 29 = zI nb') ∧ FC σ0 σ t ∧ FM τ0 τ
theorem Sy_adv {T : Nat → Int} {z t L n nb n' nb' : Nat} {σ0 τ0 σ τ : Sto} (h : Sy T z t L σ0 τ0 σ τ n nb n' nb') : ∃ σ' τ', F_X6_advance σ = some σ' ∧ F_X12_goOn τ = some τ' ∧ Sy T z t L σ0 τ0 σ' τ' n nb n' nb' ∧ RdC σ σ' ∧ RdM τ τ' := by
  obtain ⟨⟨p, h1, h2, h3, h38⟩, h4, h5, ⟨c1, c2, c3, c4⟩, h7, h8⟩ := h
  have l4 := h5.2
  obtain ⟨σ', τ', p', a1, a2, a3, a4, a5, a6, a7, a8⟩ := j_adv h1
  refine ⟨σ', τ', a1, a2, ⟨⟨p', a3, by omega, fun hh => by have := a5 hh; omega, by rw [a7.1 _ _ (by omega)]; exact h38⟩, a6, ⟨by rw [a7.2.2]; exact h5.1, h5.2⟩, ⟨?_, ?_, ?_, ?_⟩, FC_tr h7 (FC_rd a7), FM_tr h8 (FM_rd a8)⟩, a7, a8⟩
  · rw [a7.1 _ _ (by omega)]; exact c1
  · rw [a7.1 _ _ (by omega)]; exact c2
  · rw [a8.1 _ _ (by omega)]; exact c3
  · rw [a8.1 _ _ (by omega)]; exact c4
/-- at a token that isn't the end, the next one lies further on -/
theorem Sy_L {T : Nat → Int} {z t L n nb n' nb' : Nat} {σ0 τ0 σ τ : Sto} (h : Sy T z t L σ0 τ0 σ τ n nb n' nb') (h0 : σ.1 2 3 ≠ 0) : ∃ σ' τ', F_X6_advance σ = some σ' ∧ F_X12_goOn τ = some τ' ∧ Sy T z t (L + 1) σ0 τ0 σ' τ' n nb n' nb' ∧ RdC σ σ' ∧ RdM τ τ' := by
  obtain ⟨⟨p, h1, h2, h3, h38⟩, h4, h5, ⟨c1, c2, c3, c4⟩, h7, h8⟩ := h
  have l4 := h5.2
  have hL := h3 h0
  obtain ⟨σ', τ', p', a1, a2, a3, a4, a5, a6, a7, a8⟩ := j_adv h1
  refine ⟨σ', τ', a1, a2, ⟨⟨p', a3, by omega, fun hh => by have := a5 hh; omega, by rw [a7.1 _ _ (by omega)]; exact h38⟩, a6, ⟨by rw [a7.2.2]; exact h5.1, h5.2⟩, ⟨?_, ?_, ?_, ?_⟩, FC_tr h7 (FC_rd a7), FM_tr h8 (FM_rd a8)⟩, a7, a8⟩
  · rw [a7.1 _ _ (by omega)]; exact c1
  · rw [a7.1 _ _ (by omega)]; exact c2
  · rw [a8.1 _ _ (by omega)]; exact c3
  · rw [a8.1 _ _ (by omega)]; exact c4
/-- writes into what is read -/
theorem Sy_wr {T : Nat → Int} {z t L n nb n' nb' : Nat} {σ0 τ0 σ τ σ' τ' : Sto} (h : Sy T z t L σ0 τ0 σ τ n nb n' nb') (f : FC σ σ' t) (g : FM τ τ') (f1 : ∀ k, 2 ≤ k → (k ≤ 5 ∨ k = 8) → σ'.1 2 k = σ.1 2 k) (f2 : σ'.2.1 2 6 = σ.2.1 2 6) (g1 : ∀ k, 6 ≤ k → k ≤ 12 → τ'.1 0 k = τ.1 0 k) (g2 : τ'.2.1 0 13 = τ.2.1 0 13) {m mb m' mb' : Nat} (c : σ'.1 t 0 = zI m ∧ σ'.1 t 1 = zI mb ∧ τ'.1 0 23 = zI m' ∧ τ'.1 0 29 = zI mb') : Sy T z t L σ0 τ0 σ' τ' m mb m' mb' := by
  obtain ⟨⟨p, h1, h2, h3, h38⟩, h4, h5, -, h7, h8⟩ := h
  have l4 := h5.2
  refine ⟨⟨p, Ps_fr h1 (fun a k q => ?_) (by rw [f.2.2]) (fun a k q => ?_), h2, by rw [f1 3 (by omega) (by omega)]; exact h3, by rw [f1 8 (by omega) (by omega)]; exact h38⟩, TkR_fr h4 (fun k i1 i2 => f1 k (by omega) (by omega)) f2 (fun k i1 i2 => g1 k (by omega) i2) g2, ⟨by rw [f.2.2]; exact h5.1, h5.2⟩, c, FC_tr h7 f, FM_tr h8 g⟩
  · by_cases e : a = 2 ∧ k = 2
    · rw [e.1, e.2]; exact f1 2 (by omega) (by omega)
    · exact f.1 a k (by omega) (by omega)
  · by_cases e : a = 0 ∧ 6 ≤ k
    · rw [e.1]; exact g1 k (by omega) (by omega)
    · exact g.1 a k (by omega) (by omega) (by omega)
theorem Sy_7 {T : Nat → Int} {z t L n nb n' nb' : Nat} {σ0 τ0 σ τ : Sto} (h : Sy T z t L σ0 τ0 σ τ n nb n' nb') : τ.1 0 7 = 0 := by
  obtain ⟨⟨p, h1, -⟩, -⟩ := h
  exact h1.2.2.1.2.2
/-- a fault, on both sides -/
def Bad (t : Nat) (σ0 τ0 σ τ : Sto) : Prop := (∃ f : Int32, (f = 1 ∨ f = 2 ∨ f = 3 ∨ f = 4 ∨ f = 5) ∧ σ.1 2 8 = f ∧ τ.1 0 7 = f) ∧ σ.1 2 9 = τ.1 0 8 ∧ FC σ0 σ t ∧ FM τ0 τ
def Fz (τ : Sto) : Prop := ¬ τ.1 0 7 = 0 ∧ ¬ τ.1 0 7 ≤ 0
theorem Bad_Fz {t : Nat} {σ0 τ0 σ τ : Sto} (h : Bad t σ0 τ0 σ τ) : Fz τ := by
  obtain ⟨⟨f, hf, -, e⟩, -⟩ := h
  unfold Fz
  rw [e]
  rcases hf with rfl | rfl | rfl | rfl | rfl <;> decide
def Zk (τ τ' : Sto) : Prop := τ'.1 0 7 = τ.1 0 7 ∧ τ'.1 0 8 = τ.1 0 8 ∧ FM τ τ'
theorem Zk_rfl (τ : Sto) : Zk τ τ := ⟨rfl, rfl, FM_rfl τ⟩
theorem Zk_tr {τ υ ω : Sto} (h : Zk τ υ) (k : Zk υ ω) : Zk τ ω := ⟨k.1.trans h.1, k.2.1.trans h.2.1, FM_tr h.2.2 k.2.2⟩
theorem Zk_Fz {τ τ' : Sto} (h : Zk τ τ') (k : Fz τ) : Fz τ' := by
  unfold Fz at *
  rw [h.1]
  exact k
theorem Zk_si (τ : Sto) {a k : Nat} (x : Int32) (h : (a = 0 ∧ (k = 23 ∨ k = 29 ∨ k = 30)) ∨ a = 3 ∨ a = 11) : Zk τ (si τ a k x) := ⟨by rw [si_rd, if_neg (by omega)], by rw [si_rd, if_neg (by omega)], FM_si τ x (by omega)⟩
theorem Bad_z {t : Nat} {σ0 τ0 σ τ τ' : Sto} (h : Bad t σ0 τ0 σ τ) (k : Zk τ τ') : Bad t σ0 τ0 σ τ' := by
  obtain ⟨⟨f, h1, h2, h3⟩, h4, h5, h6⟩ := h
  exact ⟨⟨f, h1, h2, k.1.trans h3⟩, h4.trans k.2.1.symm, h5, FM_tr h6 k.2.2⟩
def fal (σ : Sto) (f : Int32) : Sto := si (si σ 2 8 f) 2 9 (σ.1 2 4)
def flw (τ : Sto) (f : Int32) : Sto := si (si τ 0 7 f) 0 8 (τ.1 0 10)
theorem c_fail (σ : Sto) (f : Int32) : F_X6_fail σ f = some (0, fal σ f) := by
  unfold F_X6_fail fal
  rw [sw, sw, si_rd, if_neg (by omega)]
theorem m_flaw {τ : Sto} (h : τ.1 0 7 = 0) (f : Int32) : F_X12_flaw τ f = some (flw τ f) := by
  unfold F_X12_flaw flw
  rw [h, if_pos (Int32.le_refl _), sw, sw, si_rd, if_neg (by omega)]
theorem j_fail {T : Nat → Int} {z t L n nb n' nb' : Nat} {σ0 τ0 σ τ : Sto} {f : Int32} (h : Sy T z t L σ0 τ0 σ τ n nb n' nb') (hf : f = 1 ∨ f = 2 ∨ f = 3 ∨ f = 4 ∨ f = 5) : Bad t σ0 τ0 (fal σ f) (flw τ f) := by
  obtain ⟨-, h4, -, -, h7, h8⟩ := h
  refine ⟨⟨f, hf, ?_, ?_⟩, ?_, FC_tr h7 (FC_tr (FC_si σ f (by omega)) (FC_si _ _ (by omega))), FM_tr h8 (FM_tr (FM_si τ f (by omega)) (FM_si _ _ (by omega)))⟩
  · unfold fal; rw [si_rd, if_neg (by omega), si_rd, if_pos ⟨rfl, rfl⟩]
  · unfold flw; rw [si_rd, if_neg (by omega), si_rd, if_pos ⟨rfl, rfl⟩]
  · unfold fal flw; rw [si_rd, if_pos ⟨rfl, rfl⟩, si_rd, if_pos ⟨rfl, rfl⟩]; exact h4.1
/-! the reference behind a fault -/
theorem z_goOn {τ : Sto} (h : Fz τ) : F_X12_goOn τ = some τ := by unfold F_X12_goOn; rw [if_neg h.2]
theorem z_flaw {τ : Sto} (h : Fz τ) (f : Int32) : F_X12_flaw τ f = some τ := by unfold F_X12_flaw; rw [if_neg h.2]
theorem z_isW {τ : Sto} (h : Fz τ) (k : Nat) : F_X12_isWord τ k = some 0 := by unfold F_X12_isWord; rw [if_neg h.1]
theorem z_isS {τ : Sto} (h : Fz τ) (c : Int32) : F_X12_isSign τ c = some 0 := by unfold F_X12_isSign; rw [if_neg h.1]
theorem z_needs {τ : Sto} (h : Fz τ) (k : Nat) : F_X12_needs τ k = some τ := by
  unfold F_X12_needs F_X12_needs_13
  rw [z_isW h, Option.bind_some, if_pos rfl, z_flaw h, Option.bind_some, z_goOn h, Option.bind_some]
theorem z_whole {τ : Sto} (h : Fz τ) (a b : Int32) : F_X12_readWhole τ a b = some (τ.1 0 12, τ) := by
  have e : F_X12_readWhole_33 τ = some (τ.1 0 12, τ) := by unfold F_X12_readWhole_33; rw [z_goOn h, Option.bind_some]
  unfold F_X12_readWhole F_X12_in
  rw [z_flaw h, z_flaw h, Option.bind_some, e]
  by_cases q1 : τ.1 0 9 = 3
  · rw [if_pos q1]
    by_cases q2 : τ.1 0 12 < a
    · rw [if_pos q2]; rfl
    · rw [if_neg q2]
      by_cases q3 : b < τ.1 0 12
      · rw [if_pos q3]; rfl
      · rw [if_neg q3]; rfl
  · rw [if_neg q1]
theorem z_told {τ : Sto} (h : Fz τ) (k : Nat) (a b : Int32) : F_X12_readTold τ k a b = some (τ.1 0 12, τ) := by
  unfold F_X12_readTold
  rw [z_needs h, Option.bind_some, z_whole h, Option.bind_some]
theorem z_n29 {τ : Sto} (h : Fz τ) (i : Int32) (j : Nat) (x : Int32) : F_X12_readName_29 (j + 1) τ i x = some τ := by
  rw [F_X12_readName_29, if_neg h.1, show FU = 5999 + 1 from rfl, F_X12_readName_71, if_neg h.1]
  unfold F_X12_readName_113 F_X12_readName_130
  rw [if_neg h.1, z_goOn h, Option.bind_some]
theorem z_n71 {τ : Sto} (h : Fz τ) (i : Int32) (j : Nat) (x : Int32) : F_X12_readName_71 (j + 1) τ i x = some τ := by
  rw [F_X12_readName_71, if_neg h.1]
  unfold F_X12_readName_113 F_X12_readName_130
  rw [if_neg h.1, z_goOn h, Option.bind_some]
theorem z_name {τ : Sto} (h : Fz τ) (i : Int32) : F_X12_readName τ i = some τ := by
  unfold F_X12_readName
  rw [if_neg h.1, show FU = 5999 + 1 from rfl, z_n29 h]
