/-! THE CLASS'S SEARCH: STAIRS -/
def npd (r : Nat → Nat) (s : Nat) (x : Nat) : Nat → Nat := fun t => if t = s then x else r t
theorem npd_s (r : Nat → Nat) (s : Nat) (x : Nat) : npd r s x s = x := if_pos rfl
theorem npd_o (r : Nat → Nat) {s t : Nat} (x : Nat) (h : t ≠ s) : npd r s x t = r t := if_neg h
def StQ (W : Nat → Int) (m c : Nat) (r u : Nat → Nat) : Prop := c ≤ m ∧ (0 < m → 0 < c) ∧ (∀ i, i < c → r i < m) ∧ (∀ i j, i < j → j < c → r i < r j ∧ W (r i) < W (r j)) ∧ ∀ f, f < m → u f < c ∧ r (u f) ≤ f ∧ (∀ g, g ≤ f → W g ≤ W (r (u f))) ∧ ∀ i, i < c → r i ≤ f → i ≤ u f
theorem StQ_mono {W : Nat → Int} {m c : Nat} {r u : Nat → Nat} (h : StQ W m c r u) {i j : Nat} (h1 : i ≤ j) (h2 : j < c) : W (r i) ≤ W (r j) := by
  by_cases e : i = j
  · rw [e]; exact Int.le_refl _
  · have := (h.2.2.2.1 i j (by omega) h2).2
    omega
theorem StQ_new {W : Nat → Int} {m c : Nat} {r u : Nat → Nat} (h : StQ W m c r u) (k : c = 0 ∨ W (r (c - 1)) < W m) : StQ W (m + 1) (c + 1) (npd r c m) (npd u m c) := by
  have h' := h
  obtain ⟨h1, h2, h3, h4, h5⟩ := h'
  have all : ∀ i, i < c → W (r i) < W m := by
    intro i hi
    rcases k with k | k
    · omega
    · have := StQ_mono h (i := i) (j := c - 1) (by omega) (by omega)
      omega
  refine ⟨by omega, by omega, fun i hi => ?_, fun i j hi hj => ?_, fun f hf => ?_⟩
  · by_cases e : i = c
    · rw [e, npd_s]; omega
    · rw [npd_o _ _ e]; have := h3 i (by omega); omega
  · rw [npd_o _ _ (show i ≠ c by omega)]
    by_cases e : j = c
    · rw [e, npd_s]
      exact ⟨h3 i (by omega), all i (by omega)⟩
    · rw [npd_o _ _ e]; exact h4 i j hi (by omega)
  · by_cases e : f = m
    · subst e
      rw [npd_s, npd_s]
      refine ⟨by omega, Nat.le_refl _, fun g hg => ?_, fun i hi _ => by omega⟩
      by_cases e2 : g = f
      · rw [e2]; exact Int.le_refl _
      · have a := h5 g (by omega)
        have c2 := a.2.2.1 g (Nat.le_refl _)
        have c3 := all _ a.1
        omega
    · rw [npd_o u _ e]
      obtain ⟨a1, a2, a3, a4⟩ := h5 f (by omega)
      rw [npd_o r _ (show u f ≠ c by omega)]
      refine ⟨by omega, a2, a3, fun i hi hr => ?_⟩
      by_cases e2 : i = c
      · rw [e2, npd_s] at hr; omega
      · rw [npd_o _ _ e2] at hr; exact a4 i (by omega) hr
theorem StQ_old {W : Nat → Int} {m c : Nat} {r u : Nat → Nat} (h : StQ W m c r u) (hc : 0 < c) (k : W m ≤ W (r (c - 1))) : StQ W (m + 1) c r (npd u m (c - 1)) := by
  have h' := h
  obtain ⟨h1, h2, h3, h4, h5⟩ := h'
  refine ⟨by omega, by omega, fun i hi => by have := h3 i hi; omega, h4, fun f hf => ?_⟩
  by_cases e : f = m
  · subst e
    rw [npd_s]
    refine ⟨by omega, by have := h3 (c - 1) (by omega); omega, fun g hg => ?_, fun i hi _ => by omega⟩
    by_cases e2 : g = f
    · rw [e2]; exact k
    · have a := h5 g (by omega)
      have c2 := a.2.2.1 g (Nat.le_refl _)
      have c3 := StQ_mono h (i := u g) (j := c - 1) (by omega) (by omega)
      omega
  · rw [npd_o u _ e]
    exact h5 f (by omega)
/-- what one service's stairs touch -/
def SrO (σ τ : Sto) (s : Nat) : Prop := (∀ a, ¬ (68 ≤ a ∧ a ≤ 71) → τ.1 a = σ.1 a) ∧ (∀ a k, 69 ≤ a → a ≤ 71 → ¬ (21 * s ≤ k ∧ k < 21 * s + 21) → τ.1 a k = σ.1 a k) ∧ (∀ k, k ≠ s → τ.1 68 k = σ.1 68 k) ∧ τ.2 = σ.2
theorem SrO_rfl (σ : Sto) (s : Nat) : SrO σ σ s := ⟨fun _ _ => rfl, fun _ _ _ _ _ => rfl, fun _ _ => rfl, rfl⟩
theorem SrO_si {σ τ : Sto} {s : Nat} (h : SrO σ τ s) (a k : Nat) (x : Int32) (q : (69 ≤ a ∧ a ≤ 71 ∧ 21 * s ≤ k ∧ k < 21 * s + 21) ∨ (a = 68 ∧ k = s)) : SrO σ (si τ a k x) s := by
  refine ⟨fun b hb => ?_, fun b j h1 h2 h3 => ?_, fun j hj => ?_, h.2.2.2⟩
  · rw [← h.1 b hb]; funext j; rw [si_rd, if_neg (by omega)]
  · rw [si_rd, if_neg (by omega)]; exact h.2.1 b j h1 h2 h3
  · rw [si_rd, if_neg (by omega)]; exact h.2.2.1 j hj
theorem s_stair {σ : Sto} {n L : Nat} {ld : Nat → Nat → Int} {lo hi : Nat → Int} {w : Nat → Nat → Int} {a1 : Nat} (b : SrB n L ld lo hi w) (D : SrD σ n L ld lo hi) (ha : shC a1 = (20, 84)) (ha2 : ¬ (63 ≤ a1 ∧ a1 ≤ 74)) (hw : ∀ s, s < n → ∀ p, p ≤ 20 → σ.1 a1 (21 * s + p) = zI (w s p)) {s : Nat} (hs : s < n) :
    ∃ (τ : Sto) (c : Nat) (r u : Nat → Nat), F_X8_setStairs σ a1 (zI s) = some τ ∧ SrO σ τ s ∧ StQ (fun g => w s (lo s + (g : Int)).toNat) (hi s - lo s + 1).toNat c r u ∧ τ.1 68 s = zI c ∧ (∀ i, i < c → τ.1 69 (21 * s + i) = zI (r i) ∧ τ.1 70 (21 * s + i) = zI (w s (lo s + (r i : Int)).toNat)) ∧ ∀ f : Nat, (f : Int) ≤ hi s - lo s → τ.1 71 (21 * s + f) = zI (u f) := by
  have h4 := b.1
  have bh := b.2.2.2.1 s hs
  have H88 : ∀ (K : Sto → Nat → Int32 → Int32 → Int32 → Int32 → Option Sto) (τ : Sto) (p : Nat) (c : Int), (p : Int) ≤ hi s - lo s → SrO σ τ s → F_X8_setStairs_88 K τ a1 (zI s) (zI (s * 21)) (zI c) (zI (lo s + p)) = K (si τ 71 (21 * s + p) (zI (c - 1))) a1 (zI s) (zI (s * 21)) (zI c) (zI (lo s + ((p + 1 : Nat) : Int))) := by
    intro K τ p c hp g
    unfold F_X8_setStairs_88
    simp (disch := omega) only [zl1, zI_ib, zI_ix, Int.toNat_natCast, g.1 66, (D.2.2.2 s hs).1, zI_add, zI_sub]
    rw [if_pos (by omega), if_pos (by omega), sw, show ((s : Int) * 21 + (lo s + p) - lo s).toNat = 21 * s + p by omega, show lo s + (p : Int) + 1 = lo s + ((p + 1 : Nat) : Int) by omega]
  have H56 : ∀ (K : Sto → Nat → Int32 → Int32 → Int32 → Int32 → Option Sto) (τ : Sto) (p c : Nat) (v : Int32), (p : Int) ≤ hi s - lo s → c ≤ 20 → SrO σ τ s → F_X8_setStairs_56 K τ a1 (zI s) (zI (s * 21)) (zI c) (zI (lo s + p)) v = K (si (si (si τ 69 (21 * s + c) (zI p)) 70 (21 * s + c) v) 71 (21 * s + p) (zI c)) a1 (zI s) (zI (s * 21)) (zI ((c + 1 : Nat) : Int)) (zI (lo s + ((p + 1 : Nat) : Int))) := by
    intro K τ p c v hp hc g
    unfold F_X8_setStairs_56
    simp (disch := omega) only [zl1, zI_ib, zI_ix, Int.toNat_natCast, g.1 66, (D.2.2.2 s hs).1, zI_add, zI_sub]
    rw [if_pos (by omega), if_pos (by omega), sw, sw, show ((s : Int) * 21 + c).toNat = 21 * s + c by omega, show lo s + (p : Int) - lo s = p by omega, H88 K _ p _ hp (SrO_si (SrO_si g 69 _ _ (by omega)) 70 _ _ (by omega)), show (c : Int) + 1 - 1 = c by omega, show (c : Int) + 1 = ((c + 1 : Nat) : Int) by omega]
  have key : ∀ (m p k : Nat) (τ : Sto) (c0 : Nat) (r0 u0 : Nat → Nat), (p : Int) + m = hi s - lo s + 1 → m < k → SrO σ τ s → StQ (fun g => w s (lo s + (g : Int)).toNat) p c0 r0 u0 → (∀ i, i < c0 → τ.1 69 (21 * s + i) = zI (r0 i) ∧ τ.1 70 (21 * s + i) = zI (w s (lo s + (r0 i : Int)).toNat)) → (∀ f : Nat, f < p → τ.1 71 (21 * s + f) = zI (u0 f)) →
      ∃ (υ : Sto) (c : Nat) (r u : Nat → Nat), F_X8_setStairs_16 k τ a1 (zI s) (zI (s * 21)) (zI c0) (zI (lo s + p)) = some υ ∧ SrO σ υ s ∧ StQ (fun g => w s (lo s + (g : Int)).toNat) (hi s - lo s + 1).toNat c r u ∧ υ.1 68 s = zI c ∧ (∀ i, i < c → υ.1 69 (21 * s + i) = zI (r i) ∧ υ.1 70 (21 * s + i) = zI (w s (lo s + (r i : Int)).toNat)) ∧ ∀ f : Nat, (f : Int) ≤ hi s - lo s → υ.1 71 (21 * s + f) = zI (u f) := by
    intro m
    induction m with
    | zero =>
      intro p k τ c0 r0 u0 h1 h2 g Q q1 q2
      obtain ⟨k, rfl⟩ : ∃ j, k = j + 1 := ⟨k - 1, by omega⟩
      refine ⟨si τ 68 s (zI c0), c0, r0, u0, ?_, SrO_si g 68 s _ (by omega), ?_, ?_, fun i hi => ?_, fun f hf => ?_⟩
      · rw [F_X8_setStairs_16]
        simp (disch := omega) only [zI_ib, zI_ix, Int.toNat_natCast, g.1 67, (D.2.2.2 s hs).2, zI_lt]
        rw [if_pos (by omega), if_pos (by omega), sw]
      · rw [show (hi s - lo s + 1).toNat = p by omega]; exact Q
      · rw [si_rd, if_pos ⟨rfl, rfl⟩]
      · rw [si_rd, if_neg (by omega), si_rd, if_neg (by omega)]; exact q1 i hi
      · rw [si_rd, if_neg (by omega)]; exact q2 f (by omega)
    | succ m ih =>
      intro p k τ c0 r0 u0 h1 h2 g Q q1 q2
      obtain ⟨k, rfl⟩ : ∃ j, k = j + 1 := ⟨k - 1, by omega⟩
      have hv := hw s hs (lo s + p).toNat (by omega)
      have vb := b.2.2.2.2 s hs (lo s + p).toNat (by omega)
      have c20 := Q.1
      rw [F_X8_setStairs_16]
      simp (disch := omega) only [zl0, zl1, zI_ib, zI_ix, Int.toNat_natCast, g.1 67, (D.2.2.2 s hs).2, zI_lt, zI_add, zI_sub, zI_eq]
      rw [if_pos (by omega), if_neg (by omega), if_pos ha, if_pos (by omega), g.1 a1 (by omega), show ((s : Int) * 21 + (lo s + p)).toNat = 21 * s + (lo s + p).toNat by omega, hv]
      have new : (c0 = 0 ∨ w s (lo s + (r0 (c0 - 1) : Int)).toNat < w s (lo s + p).toNat) → ∃ (υ : Sto) (c : Nat) (r u : Nat → Nat), F_X8_setStairs_56 (F_X8_setStairs_16 k) τ a1 (zI s) (zI (s * 21)) (zI c0) (zI (lo s + p)) (zI (w s (lo s + p).toNat)) = some υ ∧ SrO σ υ s ∧ StQ (fun g => w s (lo s + (g : Int)).toNat) (hi s - lo s + 1).toNat c r u ∧ υ.1 68 s = zI c ∧ (∀ i, i < c → υ.1 69 (21 * s + i) = zI (r i) ∧ υ.1 70 (21 * s + i) = zI (w s (lo s + (r i : Int)).toNat)) ∧ ∀ f : Nat, (f : Int) ≤ hi s - lo s → υ.1 71 (21 * s + f) = zI (u f) := by
        intro hnew
        rw [H56 _ _ _ _ _ (by omega) (by omega) g]
        refine ih (p + 1) k _ (c0 + 1) (npd r0 c0 p) (npd u0 p c0) (by omega) (by omega) (SrO_si (SrO_si (SrO_si g 69 _ _ (by omega)) 70 _ _ (by omega)) 71 _ _ (by omega)) (StQ_new Q hnew) (fun i hi => ?_) (fun f hf => ?_)
        · by_cases e : i = c0
          · subst e
            rw [npd_s]
            constructor
            · rw [si_rd, if_neg (by omega), si_rd, if_neg (by omega), si_rd, if_pos ⟨rfl, rfl⟩]
            · rw [si_rd, if_neg (by omega), si_rd, if_pos ⟨rfl, rfl⟩]
          · rw [npd_o _ _ e]
            rw [si_rd, if_neg (by omega), si_rd, if_neg (by omega), si_rd, if_neg (by omega), si_rd, if_neg (by omega), si_rd, if_neg (by omega), si_rd, if_neg (by omega)]
            exact q1 i (by omega)
        · by_cases e : f = p
          · rw [e, npd_s, si_rd, if_pos ⟨rfl, rfl⟩]
          · rw [npd_o _ _ e, si_rd, if_neg (by omega), si_rd, if_neg (by omega), si_rd, if_neg (by omega)]
            exact q2 f (by omega)
      by_cases c00 : (c0 : Int) = 0
      · rw [if_pos c00]
        exact new (Or.inl (by omega))
      · have hl := q1 (c0 - 1) (by omega)
        have rl := Q.2.2.1 (c0 - 1) (by omega)
        have lb := b.2.2.2.2 s hs (lo s + (r0 (c0 - 1) : Int)).toNat (by omega)
        rw [if_neg c00, if_pos (by omega), show ((s : Int) * 21 + c0 - 1).toNat = 21 * s + (c0 - 1) by omega, hl.2]
        simp (disch := omega) only [zI_le]
        by_cases le : w s (lo s + p).toNat ≤ w s (lo s + (r0 (c0 - 1) : Int)).toNat
        · rw [if_pos le, H88 _ _ _ _ (by omega) g, show (c0 : Int) - 1 = ((c0 - 1 : Nat) : Int) by omega]
          refine ih (p + 1) k _ c0 r0 (npd u0 p (c0 - 1)) (by omega) (by omega) (SrO_si g 71 _ _ (by omega)) (StQ_old Q (by omega) le) (fun i hi => ?_) (fun f hf => ?_)
          · rw [si_rd, if_neg (by omega), si_rd, if_neg (by omega)]
            exact q1 i (by omega)
          · by_cases e : f = p
            · rw [e, npd_s, si_rd, if_pos ⟨rfl, rfl⟩]
            · rw [npd_o _ _ e, si_rd, if_neg (by omega)]
              exact q2 f (by omega)
        · rw [if_neg le]
          exact new (Or.inr (by omega))
  unfold F_X8_setStairs
  simp (disch := omega) only [zI_ib, zI_ix, Int.toNat_natCast]
  rw [if_pos (by omega), (D.2.2.2 s hs).1, zl21, zI_mul, zl0]
  have := key (hi s - lo s + 1).toNat 0 FU σ 0 (fun _ => 0) (fun _ => 0) (by omega) (FU_lt (by omega)) (SrO_rfl σ s) ⟨Nat.le_refl _, fun h => h, fun i hi => by omega, fun i j _ hj => by omega, fun f hf => by omega⟩ (fun i hi => by omega) (fun f hf => by omega)
  rw [show lo s + ((0 : Nat) : Int) = lo s by omega] at this
  exact this
