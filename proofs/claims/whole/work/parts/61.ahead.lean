/-! YEARS ON PAPER: what holds of them -/
def EqN (μ ν : Nat → Int) (n : Nat) : Prop := (∀ s, s < n → ∀ j, j < 7 → j ≠ 1 → μ (7 * s + j) = ν (7 * s + j)) ∧ (∀ r, r < 4 → μ (28 + r) = ν (28 + r)) ∧ μ 33 = ν 33
theorem EqN_rfl (μ : Nat → Int) (n : Nat) : EqN μ μ n := ⟨fun _ _ _ _ _ => rfl, fun _ _ => rfl, rfl⟩
theorem EqN_sT {μ ν : Nat → Int} {n : Nat} (h : EqN μ ν n) : sT μ ν n := fun s hs => ⟨h.1 s hs 2 (by omega) (by omega), h.1 s hs 3 (by omega) (by omega), h.1 s hs 4 (by omega) (by omega), h.1 s hs 6 (by omega) (by omega)⟩
theorem EqN_0 {μ ν : Nat → Int} {n : Nat} (h : EqN μ ν n) {s : Nat} (hs : s < n) : μ (7 * s) = ν (7 * s) := h.1 s hs 0 (by omega) (by omega)
theorem EqN_we {μ ν : Nat → Int} {n : Nat} (h : EqN μ ν n) {s : Nat} (hs : s < n) : we μ s = we ν s := by
  unfold we
  rw [bo_sT (EqN_sT h) hs, EqN_0 h hs]
theorem EqN_al {μ ν : Nat → Int} {n : Nat} (h : EqN μ ν n) : al μ n = al ν n := by
  have e1 : ba μ n = ba ν n := sz_cg (fun s hs => by rw [EqN_we h hs, EqN_0 h hs])
  have e2 : du μ n = du ν n := sz_cg (fun s hs => by
    unfold du1
    rw [h.1 s hs 6 (by omega) (by omega), h.1 s hs 5 (by omega) (by omega), show μ 31 = ν 31 from h.2.1 3 (by omega)])
  have e3 : ra μ = ra ν := by
    unfold ra
    rw [show μ 28 = ν 28 from h.2.1 0 (by omega), show μ 29 = ν 29 from h.2.1 1 (by omega)]
  unfold al alw
  rw [e1, e2, e3, h.2.2]
theorem Fea_eq {n L : Nat} {ld ld' : Nat → Nat → Int} {R R' lo lo' hi hi' : Nat → Int} (h1 : ∀ c, c < L → ∀ s, s < n → ld c s = ld' c s) (h2 : ∀ c, c < L → R c = R' c) (h3 : ∀ s, s < n → lo s = lo' s ∧ hi s = hi' s) (q : Nat → Int) : Fea n L ld R lo hi q ↔ Fea n L ld' R' lo' hi' q := by
  unfold Fea
  constructor
  · rintro ⟨k1, k2⟩
    refine ⟨fun s hs => by rw [← (h3 s hs).1, ← (h3 s hs).2]; exact k1 s hs, fun c hc => ?_⟩
    rw [sz_cg (g := fun s => ld c s * q s) (fun s hs => by rw [h1 c hc s hs]), ← h2 c hc]
    exact k2 c hc
  · rintro ⟨k1, k2⟩
    refine ⟨fun s hs => by rw [(h3 s hs).1, (h3 s hs).2]; exact k1 s hs, fun c hc => ?_⟩
    rw [sz_cg (g := fun s => ld' c s * q s) (fun s hs => by rw [h1 c hc s hs]), h2 c hc]
    exact k2 c hc
theorem vl_eq {n : Nat} {w w' : Nat → Nat → Int} (h : ∀ s, s < n → ∀ p, w s p = w' s p) (q : Nat → Int) : vl n w q = vl n w' q := sz_cg (fun s hs => h s hs _)
theorem Opt_eq {n L : Nat} {ld ld' : Nat → Nat → Int} {R R' lo lo' hi hi' : Nat → Int} {w w' : Nat → Nat → Int} (e : ∀ q, Fea n L ld R lo hi q ↔ Fea n L ld' R' lo' hi' q) (h : ∀ s, s < n → ∀ p, w s p = w' s p) (q : Nat → Int) : Opt n L ld R lo hi w q ↔ Opt n L ld' R' lo' hi' w' q := by
  unfold Opt
  have ev : ∀ q, vl n w q = vl n w' q := vl_eq h
  simp only [e, ev]
theorem EqN_lds {μ ν : Nat → Int} {n L : Nat} (h : EqN μ ν n) (un : Nat → Nat → Int) : ∀ c, c < L → ∀ s, s < n → lds μ un c s = lds ν un c s := by
  intro c _ s hs
  unfold lds
  rw [EqN_we h hs]
theorem EqN_rms {μ ν : Nat → Int} {n L : Nat} (h : EqN μ ν n) (un : Nat → Nat → Int) : ∀ c, c < L → rms μ n un c = rms ν n un c := by
  intro c _
  unfold rms
  rw [EqN_al h, sz_cg (g := fun s => un (c - 1) s * ν (7 * s)) (fun s hs => by rw [EqN_0 h hs])]
theorem EqN_prw {μ ν : Nat → Int} {n : Nat} (h : sT μ ν n) : ∀ s, s < n → ∀ p, prw μ s p = prw ν s p := fun s hs p => pr_sT h hs _
theorem EqN_gow {μ ν : Nat → Int} {n : Nat} (h : sT μ ν n) : ∀ s, s < n → ∀ p, gow μ s p = gow ν s p := fun s hs p => go_sT h hs _
theorem EqN_opB {μ ν : Nat → Int} {n : Nat} (h : EqN μ ν n) : opB μ n = opB ν n := funext fun q => propext (Opt_eq (Fea_eq (EqN_lds h _) (EqN_rms h _) (fun _ _ => ⟨rfl, rfl⟩)) (EqN_prw (EqN_sT h)) q)
theorem EqN_opF {μ ν : Nat → Int} {n : Nat} (h : EqN μ ν n) : opF μ n = opF ν n := funext fun q => propext (Opt_eq (Fea_eq (EqN_lds h _) (EqN_rms h _) (fun _ _ => ⟨rfl, rfl⟩)) (EqN_gow (EqN_sT h)) q)
theorem EqN_opG {μ ν : Nat → Int} {n : Nat} (h : EqN μ ν n) (nb : Nat) (un : Nat → Nat → Int) : opG μ n nb un = opG ν n nb un := funext fun q => propext (Opt_eq (Fea_eq (EqN_lds h _) (EqN_rms h _) (fun _ _ => ⟨rfl, rfl⟩)) (EqN_prw (EqN_sT h)) q)
theorem EqN_opS {μ ν : Nat → Int} {n : Nat} (h : EqN μ ν n) (d : Int) : opS μ n d = opS ν n d := funext fun q => propext (Opt_eq (Fea_eq (EqN_lds h _) (EqN_rms h _) (fun s hs => by unfold loD hiD; rw [EqN_0 h hs]; exact ⟨rfl, rfl⟩)) (EqN_prw (EqN_sT h)) q)
theorem EqN_bR {μ ν : Nat → Int} {n : Nat} (h : EqN μ ν n) : bR μ n = bR ν n := by unfold bR; rw [EqN_opB h]
theorem EqN_cnt {μ ν : Nat → Int} {n : Nat} (h : EqN μ ν n) : ∀ d s left, s + d ≤ n → cnt μ d s left = cnt ν d s left
  | 0, _, _, _ => rfl
  | d + 1, s, left, k => by
    rw [cnt, cnt]
    refine sz_cg (fun p _ => ?_)
    rw [EqN_we h (show s < n by omega), EqN_cnt h d (s + 1) _ (by omega)]
/-- there is a best row -/
theorem op_ex {μ : Nat → Int} {n c : Nat} (g : Gd μ n c) : ∃ q, opB μ n q := by
  have h4 := g.1.2.1
  let σ : Sto := (fun a k => if a = 2 then zI (μ k) else if a = 0 ∧ k = 22 then zI n else if a = 0 ∧ k = 38 then -1 else 0, fun _ _ => 0, fun _ _ => none)
  have hm : MS σ μ n := ⟨fun k _ => rfl, rfl⟩
  obtain ⟨G, τ, e1, e2, F, e3⟩ := m_finds (σ := σ) (un := fun _ _ => 0) (nb := 0) (gf := 0) (ig := 0) hm g rfl (by omega) (fun b hb => by omega) (fun b hb => by omega) (Or.inl ⟨rfl, rfl⟩) rfl (Or.inl rfl) (Or.inl ⟨rfl, rfl, rfl⟩)
  rcases m_fea h4 (fun s hs => ⟨(h0b s).1, (h0b s).2.2⟩) (Ig_bd g.2.1 (Or.inl ⟨rfl, rfl⟩)) (fun q => FeM_1 q) e3 with ⟨_, k⟩ | ⟨q, k1, _⟩
  · exact absurd (Fea0 (nb := 0) g (fun b hb => by omega)) (k _)
  · exact ⟨q, k1⟩
theorem bR_op {μ : Nat → Int} {n c : Nat} (g : Gd μ n c) : opB μ n (bR μ n) := Classical.epsilon_spec (op_ex g)
theorem bR_eq {μ : Nat → Int} {n c : Nat} (g : Gd μ n c) {q : Nat → Int} (h : opB μ n q) : ∀ s, s < n → q s = bR μ n s := Opt_un (bR_op g) h
theorem bR_bd {μ : Nat → Int} {n c : Nat} (g : Gd μ n c) : ∀ s, s < n → 0 ≤ bR μ n s ∧ bR μ n s ≤ 20 := (bR_op g).1.1
/-- NEW laid -/
theorem lay1_o {μ : Nat → Int} {n : Nat} {r : Nat → Int} {k : Nat} (h : ¬ (k < 7 * n ∧ k % 7 = 1)) : lay1 μ n r k = μ k := if_neg h
theorem lay1_1 {μ : Nat → Int} {n : Nat} {r : Nat → Int} {s : Nat} (h : s < n) : lay1 μ n r (7 * s + 1) = r s := by
  unfold lay1
  rw [if_pos (by omega), show (7 * s + 1) / 7 = s by omega]
theorem lay1_eq (μ : Nat → Int) {n : Nat} {r q : Nat → Int} (h : ∀ s, s < n → r s = q s) : lay1 μ n r = lay1 μ n q := by
  funext k
  unfold lay1
  by_cases e : k < 7 * n ∧ k % 7 = 1
  · rw [if_pos e, if_pos e, h _ (by omega)]
  · rw [if_neg e, if_neg e]
theorem lay1_N (μ : Nat → Int) {n : Nat} (h4 : n ≤ 4) (r : Nat → Int) : EqN (lay1 μ n r) μ n := ⟨fun s hs j h1 h2 => lay1_o (by omega), fun r hr => lay1_o (by omega), lay1_o (by omega)⟩
theorem Gd_N {μ ν : Nat → Int} {n c : Nat} (g : Gd μ n c) (h : EqN ν μ n) (hn : ∀ s, s < n → 0 ≤ ν (7 * s + 1) ∧ ν (7 * s + 1) ≤ 20) : Gd ν n c := by
  obtain ⟨g1, g2, g3, g4, g5, g6, g7, g8⟩ := g
  refine ⟨g1, fun s hs => ?_, fun s hs => ?_, ?_, ?_, ?_, ?_, ?_⟩
  · rw [(EqN_sT h s hs).1, (EqN_sT h s hs).2.1, (EqN_sT h s hs).2.2.1, (EqN_sT h s hs).2.2.2]; exact g2 s hs
  · rw [EqN_0 h hs, h.1 s hs 5 (by omega) (by omega)]; exact ⟨(g3 s hs).1, hn s hs, (g3 s hs).2.2⟩
  · rw [show ν 28 = μ 28 from h.2.1 0 (by omega)]; exact g4
  · rw [show ν 29 = μ 29 from h.2.1 1 (by omega)]; exact g5
  · rw [show ν 30 = μ 30 from h.2.1 2 (by omega)]; exact g6
  · rw [show ν 31 = μ 31 from h.2.1 3 (by omega)]; exact g7
  · rw [h.2.2]; exact g8
theorem lay1_Gd {μ : Nat → Int} {n c : Nat} (g : Gd μ n c) {r : Nat → Int} (h : ∀ s, s < n → 0 ≤ r s ∧ r s ≤ 20) : Gd (lay1 μ n r) n c := Gd_N g (lay1_N μ g.1.2.1 r) (fun s hs => by rw [lay1_1 hs]; exact h s hs)
/-- a year's end -/
theorem en_p {μ : Nat → Int} {n s : Nat} (h4 : n ≤ 4) (hs : s < n) : en μ n (7 * s) = μ (7 * s + 1) := by
  unfold en
  rw [if_neg (by omega), if_pos (by omega)]
theorem en_o {μ : Nat → Int} {n k : Nat} (h : k ≠ 33) (h2 : ¬ (k < 7 * n ∧ k % 7 = 0)) : en μ n k = μ k := by
  unfold en
  rw [if_neg h, if_neg h2]
theorem en_33 (μ : Nat → Int) (n : Nat) : en μ n 33 = car μ n := if_pos rfl
theorem en_Gd {μ : Nat → Int} {n c : Nat} (g : Gd μ n c) (hc : c + 1 ≤ 120) : Gd (en μ n) n (c + 1) := by
  have cb := car_bd g
  obtain ⟨g1, g2, g3, g4, g5, g6, g7, g8⟩ := g
  refine ⟨⟨g1.1, g1.2.1, hc⟩, fun s hs => ?_, fun s hs => ?_, ?_, ?_, ?_, ?_, ?_⟩
  · rw [en_o (by omega) (by omega), en_o (by omega) (by omega), en_o (by omega) (by omega), en_o (by omega) (by omega)]; exact g2 s hs
  · rw [en_p g1.2.1 hs, en_o (by omega) (by omega), en_o (by omega) (by omega)]; exact ⟨(g3 s hs).2.1, (g3 s hs).2.1, (g3 s hs).2.2⟩
  · rw [en_o (by omega) (by omega)]; exact g4
  · rw [en_o (by omega) (by omega)]; exact g5
  · rw [en_o (by omega) (by omega)]; exact g6
  · rw [en_o (by omega) (by omega)]; exact g7
  · rw [en_33]; omega
theorem en_sT (μ : Nat → Int) {n : Nat} (h4 : n ≤ 4) : sT (en μ n) μ n := fun s hs => ⟨en_o (by omega) (by omega), en_o (by omega) (by omega), en_o (by omega) (by omega), en_o (by omega) (by omega)⟩
theorem sT_rfl (μ : Nat → Int) (n : Nat) : sT μ μ n := fun _ _ => ⟨rfl, rfl, rfl, rfl⟩
/-- the years ahead -/
theorem ah_Gd {μ : Nat → Int} {n c : Nat} (g : Gd μ n c) : ∀ k, c + k ≤ 120 → Gd (ah μ n k) n (c + k)
  | 0, _ => g
  | k + 1, h => by
    have a := ah_Gd g k (by omega)
    exact en_Gd (lay1_Gd a (bR_bd a)) h
theorem ah_sT {μ : Nat → Int} {n : Nat} (h4 : n ≤ 4) : ∀ k, sT (ah μ n k) μ n
  | 0 => sT_rfl μ n
  | k + 1 => sT_tr (en_sT _ h4) (sT_tr (EqN_sT (lay1_N _ h4 _)) (ah_sT h4 k))
theorem en_N {μ ν : Nat → Int} {n : Nat} (h4 : n ≤ 4) (h : EqN μ ν n) (hn : ∀ s, s < n → μ (7 * s + 1) = ν (7 * s + 1)) : EqN (en μ n) (en ν n) n := by
  refine ⟨fun s hs j h1 h2 => ?_, fun r hr => ?_, ?_⟩
  · by_cases e : j = 0
    · subst e
      rw [Nat.add_zero, en_p h4 hs, en_p h4 hs, hn s hs]
    · rw [en_o (by omega) (by omega), en_o (by omega) (by omega)]; exact h.1 s hs j h1 h2
  · rw [en_o (by omega) (by omega), en_o (by omega) (by omega)]; exact h.2.1 r hr
  · rw [en_33, en_33]
    unfold car
    have e1 := EqN_al h
    have e2 : sp μ n = sp ν n := sz_cg (fun s hs => by rw [EqN_we h hs, hn s hs])
    rw [e1, e2, show μ 30 = ν 30 from h.2.1 2 (by omega)]
theorem ah_N {μ ν : Nat → Int} {n : Nat} (h4 : n ≤ 4) (h : EqN μ ν n) : ∀ k, EqN (ah μ n k) (ah ν n k) n
  | 0 => h
  | k + 1 => by
    have a := ah_N h4 h k
    have b := EqN_bR a
    show EqN (en (lay1 (ah μ n k) n (bR (ah μ n k) n)) n) (en (lay1 (ah ν n k) n (bR (ah ν n k) n)) n) n
    rw [b]
    refine en_N h4 ⟨fun s hs j h1 h2 => ?_, fun r hr => ?_, ?_⟩ (fun s hs => by rw [lay1_1 hs, lay1_1 hs])
    · rw [lay1_o (by omega), lay1_o (by omega)]; exact a.1 s hs j h1 h2
    · rw [lay1_o (by omega), lay1_o (by omega)]; exact a.2.1 r hr
    · rw [lay1_o (by omega), lay1_o (by omega)]; exact a.2.2
theorem paP_N {μ ν : Nat → Int} {n : Nat} (h4 : n ≤ 4) (h : EqN μ ν n) : ∀ k, paP μ n k = paP ν n k ∧ paG μ n k = paG ν n k ∧ paO μ n k = paO ν n k ∧ of1 (ah μ n k) n 0 = of1 (ah ν n k) n 0 := by
  intro k
  have o : of1 (ah μ n k) n 0 = of1 (ah ν n k) n 0 := sz_cg (fun s hs => by
    have a := ah_N h4 h k
    rw [show ah μ n k (7 * s + 0) = ah ν n k (7 * s + 0) from a.1 s hs 0 (by omega) (by omega), a.1 s hs 4 (by omega) (by omega)])
  induction k with
  | zero => exact ⟨rfl, rfl, rfl, o⟩
  | succ k ih =>
    have a := ah_N h4 h k
    have b := EqN_bR a
    obtain ⟨i1, i2, i3, -⟩ := ih (sz_cg (fun s hs => by
      rw [show ah μ n k (7 * s + 0) = ah ν n k (7 * s + 0) from a.1 s hs 0 (by omega) (by omega), a.1 s hs 4 (by omega) (by omega)]))
    refine ⟨?_, ?_, ?_, o⟩
    · rw [paP, paP, i1, b, vl_eq (EqN_prw (EqN_sT h))]
    · rw [paG, paG, i2, b, vl_eq (EqN_gow (EqN_sT h))]
    · rw [paO, paO, i3, b]
      congr 1
      have e : (∀ s, s < n → bR (ah ν n k) n s = ah μ n k (7 * s)) ↔ (∀ s, s < n → bR (ah ν n k) n s = ah ν n k (7 * s)) := by
        constructor
        · intro h s hs; rw [h s hs]; exact EqN_0 a hs
        · intro h s hs; rw [h s hs]; exact (EqN_0 a hs).symm
      by_cases q : ∀ s, s < n → bR (ah ν n k) n s = ah ν n k (7 * s)
      · rw [if_pos q, if_pos (e.2 q)]
      · rw [if_neg q, if_neg (fun h => q (e.1 h))]
