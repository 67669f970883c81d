/-! THE CLASS'S SEARCH: find -/
theorem s_low {σ : Sto} {n L : Nat} {ld : Nat → Nat → Int} {lo hi R : Nat → Int} {w : Nat → Nat → Int} (b : SrB n L ld lo hi w) (D : SrD σ n L ld lo hi) (rm : SrR σ L R) (rb : ∀ c, c < L → 0 ≤ R c ∧ R c ≤ 16000) : ∃ (v : Int32) (τ : Sto), F_X8_takeLowest σ = some (v, τ) ∧ SrE σ τ ∧ SrR τ L (fun c => R c - sz n (fun s => ld c s * lo s)) ∧ ((v = 1 ∧ ∀ c, c < L → 0 ≤ R c - sz n (fun s => ld c s * lo s)) ∨ (v = 0 ∧ ∃ c, c < L ∧ R c - sz n (fun s => ld c s * lo s) < 0)) := by
  have h4 := b.1
  have hL := b.2.1
  have sb : ∀ c, c < L → 0 ≤ sz n (fun s => ld c s * lo s) ∧ sz n (fun s => ld c s * lo s) ≤ 16000 := by
    intro c hc
    have := sz_bd (n := n) (f := fun s => ld c s * lo s) (a := 0) (b := 4000) (fun s hs => by
      have a := b.2.2.1 c hc s hs
      have e := b.2.2.2.1 s hs
      exact mul_bd (a := 200) (b := 20) a.1 a.2 e.1 (by omega))
    omega
  have inner : ∀ (K : Sto → Int32 → Int32 → Option (Int32 × Sto)) (c : Nat) (v : Int32) (R' : Nat → Int), c < L → ∀ (m s k : Nat) (τ : Sto), s + m = n → m < k → SrE σ τ → (∀ e, e < L → τ.1 65 e = if e = c then zI (R c - sz s (fun s => ld c s * lo s)) else zI (R' e)) →
      ∃ υ, SrE σ υ ∧ (∀ e, e < L → υ.1 65 e = if e = c then zI (R c - sz n (fun s => ld c s * lo s)) else zI (R' e)) ∧ F_X8_takeLowest_14 K k τ v (zI c) (zI s) = (if v = 0 then K υ 0 (zI ((c + 1 : Nat) : Int)) else (if R c - sz n (fun s => ld c s * lo s) < 0 then K υ 0 (zI ((c + 1 : Nat) : Int)) else K υ 1 (zI ((c + 1 : Nat) : Int)))) := by
    intro K c v R' hc m
    induction m with
    | zero =>
      intro s k τ h1 h2 g hR
      obtain ⟨k, rfl⟩ : ∃ j, k = j + 1 := ⟨k - 1, by omega⟩
      have e : s = n := h1
      subst e
      refine ⟨τ, g, hR, ?_⟩
      have rc := hR c hc
      rw [if_pos rfl] at rc
      have r1 := sb c hc
      have r2 := rb c hc
      rw [F_X8_takeLowest_14, (SrD_fx (SrE_F g) D).1, if_pos (zleT (by omega)), zl1, zI_add, show (c : Int) + 1 = ((c + 1 : Nat) : Int) by omega]
      simp (disch := omega) only [zI_ib, zI_ix, Int.toNat_natCast, rc, zl0, zI_lt]
      rw [if_pos (show 0 ≤ (c : Int) ∧ (c : Int) < ((5 : Nat) : Int) by omega)]
    | succ m ih =>
      intro s k τ h1 h2 g hR
      obtain ⟨k, rfl⟩ : ∃ j, k = j + 1 := ⟨k - 1, by omega⟩
      have rc := hR c hc
      rw [if_pos rfl] at rc
      have Dg := SrD_fx (SrE_F g) D
      rw [F_X8_takeLowest_14, Dg.1, if_neg (zleF (by omega))]
      simp (disch := omega) only [zl4, zl1, zI_mul, zI_add, zI_ib, zI_ix, Int.toNat_natCast, rc]
      rw [if_pos (by omega), if_pos (by omega), if_pos (by omega), sw, show ((c : Int) * 4 + s).toNat = 4 * c + s by omega, Dg.2.2.1 c hc s (by omega), (Dg.2.2.2 s (by omega)).1, zI_mul, zI_sub, show (s : Int) + 1 = ((s + 1 : Nat) : Int) by omega]
      refine ih (s + 1) k _ (by omega) (by omega) ⟨fun a ha => ?_, g.2⟩ (fun e he => ?_)
      · rw [← g.1 a ha]; funext j; rw [si_rd, if_neg (by omega)]
      · rw [si_rd]
        by_cases q : e = c
        · rw [if_pos ⟨rfl, q⟩, if_pos q, sz]; congr 1; omega
        · rw [if_neg (by omega), hR e he, if_neg q, if_neg q]
  have outer : ∀ (m c k : Nat) (v : Int32) (τ : Sto), c + m = L → m < k → SrE σ τ → (∀ e, e < L → τ.1 65 e = if e < c then zI (R e - sz n (fun s => ld e s * lo s)) else zI (R e)) → ((v = 1 ∧ ∀ e, e < c → 0 ≤ R e - sz n (fun s => ld e s * lo s)) ∨ (v = 0 ∧ ∃ e, e < c ∧ R e - sz n (fun s => ld e s * lo s) < 0)) →
      ∃ (v' : Int32) (υ : Sto), F_X8_takeLowest_4 k τ v (zI c) = some (v', υ) ∧ SrE σ υ ∧ SrR υ L (fun c => R c - sz n (fun s => ld c s * lo s)) ∧ ((v' = 1 ∧ ∀ c, c < L → 0 ≤ R c - sz n (fun s => ld c s * lo s)) ∨ (v' = 0 ∧ ∃ c, c < L ∧ R c - sz n (fun s => ld c s * lo s) < 0)) := by
    intro m
    induction m with
    | zero =>
      intro c k v τ h1 h2 g hR hv
      obtain ⟨k, rfl⟩ : ∃ j, k = j + 1 := ⟨k - 1, by omega⟩
      have e : c = L := h1
      subst e
      refine ⟨v, τ, ?_, g, fun e he => by rw [hR e he, if_pos he], hv⟩
      rw [F_X8_takeLowest_4, (SrD_fx (SrE_F g) D).2.1, if_pos (zleT (by omega)), if_pos (by rcases hv with h | h; exact Or.inr h.1; exact Or.inl h.1)]
    | succ m ih =>
      intro c k v τ h1 h2 g hR hv
      obtain ⟨k, rfl⟩ : ∃ j, k = j + 1 := ⟨k - 1, by omega⟩
      have hc : c < L := by omega
      obtain ⟨υ, u1, u2, u3⟩ := inner (F_X8_takeLowest_4 k) c v (fun e => if e < c then R e - sz n (fun s => ld e s * lo s) else R e) hc n 0 FU τ (by omega) (FU_lt (by omega)) g (fun e he => by
        rw [hR e he]
        by_cases q : e = c
        · rw [if_neg (by omega), if_pos q, q, sz]; congr 1; omega
        · rw [if_neg q]
          by_cases q2 : e < c
          · rw [if_pos q2, if_pos q2]
          · rw [if_neg q2, if_neg q2])
      have hR2 : ∀ e, e < L → υ.1 65 e = if e < c + 1 then zI (R e - sz n (fun s => ld e s * lo s)) else zI (R e) := by
        intro e he
        rw [u2 e he]
        by_cases q : e = c
        · rw [if_pos q, if_pos (by omega), q]
        · rw [if_neg q]
          by_cases q2 : e < c
          · rw [if_pos q2, if_pos (by omega)]
          · rw [if_neg q2, if_neg (by omega)]
      rw [F_X8_takeLowest_4, (SrD_fx (SrE_F g) D).2.1, if_neg (zleF (by omega)), zl0, show ((0 : Int)) = ((0 : Nat) : Int) from rfl, u3]
      rcases hv with ⟨v1, hv⟩ | ⟨v1, e, e1, e2⟩
      · rw [v1, if_neg (by decide)]
        by_cases q : R c - sz n (fun s => ld c s * lo s) < 0
        · rw [if_pos q]
          exact ih (c + 1) k _ υ (by omega) (by omega) u1 hR2 (Or.inr ⟨rfl, c, by omega, q⟩)
        · rw [if_neg q]
          refine ih (c + 1) k _ υ (by omega) (by omega) u1 hR2 (Or.inl ⟨rfl, fun e he => ?_⟩)
          by_cases q2 : e = c
          · rw [q2]; omega
          · exact hv e (by omega)
      · rw [v1, if_pos (by decide)]
        exact ih (c + 1) k _ υ (by omega) (by omega) u1 hR2 (Or.inr ⟨rfl, e, by omega, e2⟩)
  unfold F_X8_takeLowest
  have := outer L 0 FU 1 σ (by omega) (FU_lt (by omega)) (SrE_rfl σ) (fun e he => by rw [if_neg (by omega)]; exact rm e he) (Or.inl ⟨rfl, fun e he => by omega⟩)
  exact this
/-- a service's stairs, in the cells -/
def StC (τ : Sto) (lo hi : Nat → Int) (w : Nat → Nat → Int) (t : Nat) (x : Nat × (Nat → Nat) × (Nat → Nat)) : Prop := StQ (fun g => w t (lo t + (g : Int)).toNat) (hi t - lo t + 1).toNat x.1 x.2.1 x.2.2 ∧ τ.1 68 t = zI x.1 ∧ (∀ i, i < x.1 → τ.1 69 (21 * t + i) = zI (x.2.1 i) ∧ τ.1 70 (21 * t + i) = zI (w t (lo t + (x.2.1 i : Int)).toNat)) ∧ ∀ f : Nat, (f : Int) ≤ hi t - lo t → τ.1 71 (21 * t + f) = zI (x.2.2 f)
theorem StC_o {σ τ : Sto} {lo hi : Nat → Int} {w : Nat → Nat → Int} {s t : Nat} {x : Nat × (Nat → Nat) × (Nat → Nat)} (g : SrO σ τ s) (h : t ≠ s) (hb : hi t - lo t ≤ 20) (k : StC σ lo hi w t x) : StC τ lo hi w t x := by
  obtain ⟨k1, k2, k3, k4⟩ := k
  have c1 := k1.1
  refine ⟨k1, ?_, fun i hi => ?_, fun f hf => ?_⟩
  · rw [g.2.2.1 t h]; exact k2
  · rw [g.2.1 69 _ (by omega) (by omega) (by omega), g.2.1 70 _ (by omega) (by omega) (by omega)]; exact k3 i hi
  · rw [g.2.1 71 _ (by omega) (by omega) (by omega)]; exact k4 f hf
theorem SrD_o {σ τ : Sto} {n L s : Nat} {ld : Nat → Nat → Int} {lo hi : Nat → Int} (g : SrO σ τ s) (h : SrD σ n L ld lo hi) : SrD τ n L ld lo hi := by
  unfold SrD at *
  rw [g.1 63 (by decide), g.1 64 (by decide), g.1 66 (by decide), g.1 67 (by decide)]
  exact h
/-- what a search leaves in its row -/
def FnR (τ : Sto) (a2 n L : Nat) (ld : Nat → Nat → Int) (R lo hi : Nat → Int) (w : Nat → Nat → Int) : Prop := τ.1 a2 0 = 1 ∧ ((τ.1 a2 1 = 0 ∧ ∀ q, ¬ Fea n L ld R lo hi q) ∨ (τ.1 a2 1 = 1 ∧ ∃ q, Opt n L ld R lo hi w q ∧ τ.1 a2 2 = zI (vl n w q) ∧ ∀ s, s < n → τ.1 (a2 + 1) s = zI (q s)))
def FnF (σ τ : Sto) (a2 : Nat) : Prop := (∀ a, ¬ (63 ≤ a ∧ a ≤ 74) → a ≠ a2 → a ≠ a2 + 1 → τ.1 a = σ.1 a) ∧ τ.2 = σ.2
/-- the shift to the right -/
theorem zI_shr8 {a : Int} (h1 : -2147483648 ≤ a) (h2 : a < 2147483648) : zI a >>> (8 &&& 31 : Int32) = zI (a / 256) := by
  rw [show (8 &&& 31 : Int32) = 8 from by decide]
  apply Int32.toInt_inj.1
  rw [zI_to (a := a / 256) (by omega) (by omega)]
  show (zI a >>> (8 : Int32)).toBitVec.toInt = _
  rw [Int32.toBitVec_shiftRight, show ((8 : Int32).toBitVec.smod 32) = 8#32 from by decide, BitVec.sshiftRight_eq', BitVec.toInt_sshiftRight, show (8#32).toNat = 8 from rfl]
  show (zI a).toInt >>> 8 = _
  rw [zI_to h1 h2, Int.shiftRight_eq_div_pow, show ((2 ^ 8 : Nat) : Int) = 256 from rfl]
/-- a search that is prepared -/
def PrF (σ τ : Sto) : Prop := (∀ a, ¬ (63 ≤ a ∧ a ≤ 74) → τ.1 a = σ.1 a) ∧ τ.2 = σ.2
def PrS (τ : Sto) (n L : Nat) (ld : Nat → Nat → Int) (R lo hi : Nat → Int) (w : Nat → Nat → Int) (st : Nat → Nat) (rs : Nat → Nat → Int) (un : Nat → Nat → Nat) (T : Int) (re : Nat → Int) : Prop := SrD τ n L ld lo hi ∧ SrR τ L (fun c => R c - sz n (fun s => ld c s * lo s)) ∧ (∀ c, c < L → 0 ≤ R c - sz n (fun s => ld c s * lo s) ∧ R c - sz n (fun s => ld c s * lo s) ≤ 16000) ∧ StpR n lo hi w st rs un ∧ SrS τ n lo hi w st rs un ∧ SrT τ n T re ∧ SrQ n ld lo w st rs T re ∧ ∀ s, s < n → ∃ i : Nat, i < st s ∧ τ.1 72 s = zI i
theorem PrS_o {σ τ : Sto} {n L : Nat} {ld : Nat → Nat → Int} {lo hi R : Nat → Int} {w : Nat → Nat → Int} {st : Nat → Nat} {rs : Nat → Nat → Int} {un : Nat → Nat → Nat} {T : Int} {re : Nat → Int} (f : ∀ a, 63 ≤ a → a ≤ 74 → τ.1 a = σ.1 a) (h : PrS σ n L ld R lo hi w st rs un T re) : PrS τ n L ld R lo hi w st rs un T re := by
  unfold PrS SrD SrR SrS SrT at *
  rw [f 63 (by decide) (by decide), f 64 (by decide) (by decide), f 65 (by decide) (by decide), f 66 (by decide) (by decide), f 67 (by decide) (by decide), f 68 (by decide) (by decide), f 69 (by decide) (by decide), f 70 (by decide) (by decide), f 71 (by decide) (by decide), f 72 (by decide) (by decide), f 74 (by decide) (by decide)]
  exact h
theorem s_prep {σ : Sto} {n L : Nat} {ld : Nat → Nat → Int} {lo hi R : Nat → Int} {w : Nat → Nat → Int} {a1 : Nat} (b : SrB n L ld lo hi w) (D : SrD σ n L ld lo hi) (rm : SrR σ L R) (rb : ∀ c, c < L → 0 ≤ R c ∧ R c ≤ 16000) (ha : shC a1 = (20, 84)) (h1 : 102 ≤ a1) (hw : ∀ s, s < n → ∀ p, p ≤ 20 → σ.1 a1 (21 * s + p) = zI (w s p)) : ∃ (v : Int32) (υ : Sto), F_X8_prepare σ a1 = some (v, υ) ∧ PrF σ υ ∧ ((v = 1 ∧ ∃ st rs un T re, PrS υ n L ld R lo hi w st rs un T re) ∨ (v = 0 ∧ ∀ q, ¬ Fea n L ld R lo hi q)) := by
  have h4 := b.1
  have hL := b.2.1
  have bh := b.2.2.2.1
  obtain ⟨v, x1, e1, e2, e3, e4⟩ := s_low b D rm rb
  unfold F_X8_prepare
  rw [e1, Option.bind_some]
  dsimp only
  have fr0 : PrF σ x1 := ⟨fun a h3 => e2.1 a (by omega), e2.2⟩
  rcases e4 with ⟨rfl, e4⟩ | ⟨rfl, c, c1, c2⟩
  · rw [if_neg (show ¬ (1 : Int32) = 0 from by decide)]
    have D2 := SrD_fx (SrE_F e2) D
    have r0 : ∀ c, c < L → 0 ≤ R c - sz n (fun s => ld c s * lo s) ∧ R c - sz n (fun s => ld c s * lo s) ≤ 16000 := by
      intro c hc
      have a := e4 c hc
      have e := rb c hc
      have f := sz_nn (n := n) (f := fun s => ld c s * lo s) (fun s hs => Int.mul_nonneg (b.2.2.1 c hc s hs).1 (bh s hs).1)
      omega
    have key : ∀ (m s k : Nat) (τ : Sto), s + m = n → m < k → PrF σ τ → SrD τ n L ld lo hi → SrR τ L (fun c => R c - sz n (fun s => ld c s * lo s)) → (∀ t, t < s → ∃ x, StC τ lo hi w t x) → ∃ (v : Int32) (υ : Sto), F_X8_prepare_11 k τ a1 (zI s) = some (v, υ) ∧ PrF σ υ ∧ ((v = 1 ∧ ∃ st rs un T re, PrS υ n L ld R lo hi w st rs un T re) ∨ (v = 0 ∧ ∀ q, ¬ Fea n L ld R lo hi q)) := by
      intro m
      induction m with
      | zero =>
        intro s k τ g1 g2 f Dt Rt C
        obtain ⟨k, rfl⟩ : ∃ j, k = j + 1 := ⟨k - 1, by omega⟩
        have e : s = n := g1
        subst e
        obtain ⟨F, hF⟩ := Classical.axiomOfChoice (r := fun t x => t < s → StC τ lo hi w t x) (fun t => by
          by_cases q : t < s
          · obtain ⟨x, hx⟩ := C t q
            exact ⟨x, fun _ => hx⟩
          · exact ⟨(0, fun _ => 0, fun _ => 0), fun h => absurd h q⟩)
        have P : StpR s lo hi w (fun t => (F t).1) (fun t i => (((F t).2.1 i : Nat) : Int)) (fun t f => (F t).2.2 f) := by
          intro t ht
          obtain ⟨⟨q1, q2, q3, q4, q5⟩, -⟩ := hF t ht
          have bt := bh t ht
          refine ⟨⟨by dsimp only; omega, by dsimp only; omega⟩, fun i hi => ?_, fun i j hij hj => ?_, fun f hf => ?_⟩
          · have := q3 i hi
            dsimp only
            omega
          · have := q4 i j hij hj
            exact ⟨by dsimp only; omega, this.2⟩
          · obtain ⟨z1, z2, z3, z4⟩ := q5 f (by omega)
            exact ⟨z1, by dsimp only; omega, z3, fun i hi hr => z4 i hi (by dsimp only at hr; omega)⟩
        have S : SrS τ s lo hi w (fun t => (F t).1) (fun t i => (((F t).2.1 i : Nat) : Int)) (fun t f => (F t).2.2 f) := fun t ht => (hF t ht).2
        obtain ⟨y1, t1, t2⟩ := s_toll b P Dt S
        obtain ⟨f1, f65, f73, ⟨T, re, hT, hQ⟩, pk⟩ := t2
        refine ⟨1, y1, ?_, ⟨fun a i1 => by rw [f1.1 a (by omega)]; exact f.1 a i1, f1.2.2.trans f.2⟩, Or.inl ⟨rfl, _, _, _, T, re, SrD_fx f1 Dt, fun c hc => by rw [f65]; exact Rt c hc, r0, P, SrS_fx f1 S, hT, hQ, pk⟩⟩
        rw [F_X8_prepare_11, Dt.1, if_pos (zleT (by omega)), t1, Option.bind_some]
      | succ m ih =>
        intro s k τ g1 g2 f Dt Rt C
        obtain ⟨k, rfl⟩ : ∃ j, k = j + 1 := ⟨k - 1, by omega⟩
        have hs : s < n := by omega
        obtain ⟨υ, c, r, u, u1, u2, u3, u4, u5, u6⟩ := s_stair b Dt ha (by omega) (fun s hs p hp => by rw [f.1 a1 (by omega)]; exact hw s hs p hp) hs
        rw [F_X8_prepare_11, Dt.1, if_neg (zleF (by omega)), u1, Option.bind_some, zl1, zI_add, show (s : Int) + 1 = ((s + 1 : Nat) : Int) by omega]
        refine ih (s + 1) k υ (by omega) (by omega) ⟨fun a i1 => by rw [u2.1 a (by omega)]; exact f.1 a i1, u2.2.2.2.trans f.2⟩ (SrD_o u2 Dt) (fun c hc => by rw [u2.1 65 (by decide)]; exact Rt c hc) (fun t ht => ?_)
        by_cases q : t = s
        · subst q
          exact ⟨(c, r, u), u3, u4, u5, u6⟩
        · obtain ⟨x, hx⟩ := C t (by omega)
          have bt := bh t (by omega)
          exact ⟨x, StC_o u2 q (by omega) hx⟩
    rw [zl0]
    exact key n 0 FU x1 (by omega) (FU_lt (by omega)) fr0 D2 e3 (fun t ht => by omega)
  · rw [if_pos rfl]
    refine ⟨0, x1, rfl, fr0, Or.inr ⟨rfl, fun q hq => ?_⟩⟩
    have a := hq.2 c c1
    have e : sz n (fun s => ld c s * lo s) ≤ sz n (fun s => ld c s * q s) := sz_le (fun s hs => Int.mul_le_mul_of_nonneg_left (hq.1 s hs).1 (b.2.2.1 c c1 s hs).1)
    omega
theorem s_seek {τ : Sto} {n L : Nat} {ld : Nat → Nat → Int} {lo hi R : Nat → Int} {w : Nat → Nat → Int} {st : Nat → Nat} {rs : Nat → Nat → Int} {un : Nat → Nat → Nat} {T : Int} {re : Nat → Int} {a2 : Nat} (b : SrB n L ld lo hi w) (p0 : PrS τ n L ld R lo hi w st rs un T re) (h7 : (shC a2).1 = 7) (h2 : 75 ≤ a2 ∧ a2 ≤ 85) : ∃ (φ : Sto) (q : Nat → Int), F_X8_seek τ a2 = some φ ∧ FnF τ φ a2 ∧ φ.1 a2 0 = τ.1 a2 0 ∧ φ.1 a2 1 = τ.1 a2 1 ∧ StRF n L ld (fun c => R c - sz n (fun s => ld c s * lo s)) lo st rs q ∧ Opt n L ld R lo hi w q ∧ φ.1 a2 2 = zI (vl n w q) ∧ ∀ s, s < n → φ.1 (a2 + 1) s = zI (q s) := by
  have h4 := b.1
  have hL := b.2.1
  obtain ⟨D3, R3, r0, P, S3, hT, hQ, pk⟩ := p0
  obtain ⟨y2, p, p1, p2, p3, p4, p5, p6⟩ := s_greedy b P D3 S3 pk R3 r0
  have vb := g_bd b P (r := p) (s := n) (Nat.le_refl _) p5.1
  have vbp : -16000 ≤ vl n w p ∧ vl n w p ≤ 32000 := vb
  obtain ⟨y3, G, z1, z2, z3, z4, z5, z6⟩ := s_desc b P hQ r0 6 0 y2 (fun _ => 0) (vl n w p - 1) (by omega) (by omega) (SrD_fx p2.1 D3) (SrS_fx p2.1 S3) (SrT_g p2 hT) p6 (by omega) (fun t ht => by omega) (fun c hc => by rw [p4 c hc]; dsimp only; rw [sz]; congr 1; omega) (fun c hc => by rw [sz]; exact ⟨Int.le_refl _, (r0 c hc).1⟩)
  unfold F_X8_seek
  have z1' : F_X8_descend 6 y2 0 0 = some y3 := z1
  rw [p1, Option.bind_some, z1', Option.bind_some, if_pos h7, sw]
  have fa : SrF τ y3 := SrF_tr p2.1 z2.1
  have Dy := SrD_fx fa D3
  have Sy := SrS_fx fa S3
  rcases z6 with ⟨_, _, z6⟩ | ⟨q, q1, q2, q3, q4, q5⟩
  · have := z6 p ⟨fun t ht => by omega, p5⟩
    omega
  · have O : Opt n L ld R lo hi w q := Opt_st b P q1.2 (fun p hp => q5 p ⟨fun t ht => by omega, hp⟩)
    have fy : FnF τ (si y3 a2 2 (y3.1 63 14)) a2 := ⟨fun a i1 i2 i3 => by rw [← fa.1 a (by omega)]; funext j; rw [si_rd, if_neg (by omega)], fa.2.2⟩
    have ky : (si y3 a2 2 (y3.1 63 14)).1 a2 0 = τ.1 a2 0 ∧ (si y3 a2 2 (y3.1 63 14)).1 a2 1 = τ.1 a2 1 ∧ (si y3 a2 2 (y3.1 63 14)).1 a2 2 = zI (vl n w q) := by
      rw [si_rd, if_neg (by omega), si_rd, if_neg (by omega), si_rd, if_pos ⟨rfl, rfl⟩, fa.1 a2 (by omega), z4, q3]
      exact ⟨rfl, rfl, rfl⟩
    have D5 : ∀ t, t < n → (si y3 a2 2 (y3.1 63 14)).1 66 t = zI (lo t) := fun t ht => by rw [si_rd, if_neg (by omega)]; exact (Dy.2.2.2 t ht).1
    have D6 : ∀ t, t < n → ∃ i : Nat, i < 21 ∧ (si y3 a2 2 (y3.1 63 14)).1 73 t = zI i ∧ ∃ x, (si y3 a2 2 (y3.1 63 14)).1 69 (21 * t + i) = zI x ∧ q t = lo t + x := fun t ht => by
      obtain ⟨i, i1, i2, i3⟩ := q2 t ht
      have := (P t ht).1
      refine ⟨i, by omega, by rw [si_rd, if_neg (by omega)]; exact i2, _, ?_, i3⟩
      rw [si_rd, if_neg (by omega)]; exact ((Sy t ht).2.1 i i1).1
    have D7 : (si y3 a2 2 (y3.1 63 14)).1 63 0 = zI n := by rw [si_rd, if_neg (by omega)]; exact Dy.1
    generalize si y3 a2 2 (y3.1 63 14) = y4 at fy ky D5 D6 D7 ⊢
    have last : ∀ (m t k : Nat) (υ : Sto), t + m = n → m < k → (∀ a, a ≠ a2 + 1 → υ.1 a = y4.1 a) → υ.2 = y4.2 → (∀ u, u < t → υ.1 (a2 + 1) u = zI (q u)) → ∃ φ, F_X8_seek_20 k υ a2 (zI t) = some φ ∧ (∀ a, a ≠ a2 + 1 → φ.1 a = y4.1 a) ∧ φ.2 = y4.2 ∧ ∀ u, u < n → φ.1 (a2 + 1) u = zI (q u) := by
      intro m
      induction m with
      | zero =>
        intro t k υ l1 l2 l3 l4 l5
        obtain ⟨k, rfl⟩ : ∃ j, k = j + 1 := ⟨k - 1, by omega⟩
        refine ⟨υ, ?_, l3, l4, fun u hu => l5 u (by omega)⟩
        rw [F_X8_seek_20, l3 63 (by omega), D7, if_pos (zleT (by omega))]
      | succ m ih =>
        intro t k υ l1 l2 l3 l4 l5
        obtain ⟨k, rfl⟩ : ∃ j, k = j + 1 := ⟨k - 1, by omega⟩
        obtain ⟨i, i1, i2, x, i3, i4⟩ := D6 t (by omega)
        rw [F_X8_seek_20, l3 63 (by omega), D7, if_neg (zleF (by omega)), if_pos h7, l3 73 (by omega), l3 66 (by omega), l3 69 (by omega)]
        simp (disch := omega) only [zI_ib, zI_ix, Int.toNat_natCast]
        rw [if_pos (by omega), i2, zl21, zI_mul, zI_add]
        simp (disch := omega) only [zI_ib, zI_ix, Int.toNat_natCast]
        rw [if_pos (by omega), sw, show ((t : Int) * 21 + i).toNat = 21 * t + i by omega, i3, D5 t (by omega), zI_add, ← i4, zl1, zI_add, show (t : Int) + 1 = ((t + 1 : Nat) : Int) by omega]
        refine ih (t + 1) k _ (by omega) (by omega) (fun a ha => ?_) l4 (fun u hu => ?_)
        · rw [← l3 a ha]; funext j; rw [si_rd, if_neg (by omega)]
        · rw [si_rd]
          by_cases qq : u = t
          · rw [if_pos ⟨rfl, qq⟩, qq]
          · rw [if_neg (by omega)]; exact l5 u (by omega)
    obtain ⟨φ, w1, w2, w3, w4⟩ := last n 0 FU y4 (by omega) (FU_lt (by omega)) (fun _ _ => rfl) rfl (fun u hu => by omega)
    refine ⟨φ, q, w1, ⟨fun a i1 i2 i3 => (w2 a i3).trans (fy.1 a i1 i2 i3), w3.trans fy.2⟩, ?_, ?_, q1.2, O, ?_, w4⟩
    · rw [w2 a2 (by omega)]; exact ky.1
    · rw [w2 a2 (by omega)]; exact ky.2.1
    · rw [w2 a2 (by omega)]; exact ky.2.2
/-- no row is worth more -/
theorem s_bound {τ : Sto} {n L : Nat} {ld : Nat → Nat → Int} {lo hi R : Nat → Int} {w : Nat → Nat → Int} {st : Nat → Nat} {rs : Nat → Nat → Int} {un : Nat → Nat → Nat} {T : Int} {re : Nat → Int} (b : SrB n L ld lo hi w) (p0 : PrS τ n L ld R lo hi w st rs un T re) : ∃ B : Int, F_X8_bound τ = some (zI B) ∧ (-200000 ≤ B ∧ B ≤ 200000) ∧ ∀ q, Fea n L ld R lo hi q → vl n w q ≤ B := by
  have hL := b.2.1
  obtain ⟨φ, q, s1, -, -, -, s2, s3, -⟩ := s_seek (a2 := 85) b p0 (by decide) (by omega)
  obtain ⟨D3, R3, r0, P, S3, hT, hQ, pk⟩ := p0
  have q3 := hQ.2.2.1 0 (Nat.zero_le n)
  have r00 := r0 0 (by omega)
  have Tb := mul_bd (a := 1024) (b := 16000) hQ.1.1 hQ.1.2 r00.1 r00.2
  refine ⟨(re 0 + T * (R 0 - sz n (fun s => ld 0 s * lo s))) / 256, ?_, by omega, fun r hr => Int.le_trans (s3.2 r hr).1 ?_⟩
  · unfold F_X8_bound
    have R30 : τ.1 65 0 = zI (R 0 - sz n (fun s => ld 0 s * lo s)) := R3 0 (by omega)
    rw [show ix 0 = 0 from by decide, hT.1, hT.2 0 (Nat.zero_le n), R30, zI_mul, zI_add, zI_shr8 (by omega) (by omega)]
  · refine s_prune b hQ (s := 0) (Nat.zero_le n) s2 ?_
    have e0 : T * (R 0 - sz n (fun s => ld 0 s * lo s) - sz 0 (fun t => ld 0 t * (q t - lo t))) = T * (R 0 - sz n (fun s => ld 0 s * lo s)) := by
      rw [show sz 0 (fun t => ld 0 t * (q t - lo t)) = 0 from rfl, Int.sub_zero]
    rw [e0, show sz 0 (fun t => w t (q t).toNat) = 0 from rfl]
    omega
theorem s_find {σ : Sto} {n L : Nat} {ld : Nat → Nat → Int} {lo hi R : Nat → Int} {w : Nat → Nat → Int} {a1 a2 : Nat} (b : SrB n L ld lo hi w) (D : SrD σ n L ld lo hi) (rm : SrR σ L R) (rb : ∀ c, c < L → 0 ≤ R c ∧ R c ≤ 16000) (ha : shC a1 = (20, 84)) (h1 : 102 ≤ a1) (hw : ∀ s, s < n → ∀ p, p ≤ 20 → σ.1 a1 (21 * s + p) = zI (w s p)) (h7 : (shC a2).1 = 7) (h2 : 75 ≤ a2 ∧ a2 ≤ 85) : ∃ τ, F_X8_find σ a1 a2 = some τ ∧ FnF σ τ a2 ∧ FnR τ a2 n L ld R lo hi w := by
  have h4 := b.1
  have hL := b.2.1
  have bh := b.2.2.2.1
  have D1 : SrD (si σ a2 0 1) n L ld lo hi := by
    unfold SrD at *
    simp (disch := omega) only [si_rd, if_neg]
    exact D
  have rm1 : SrR (si σ a2 0 1) L R := fun c hc => by rw [si_rd, if_neg (by omega)]; exact rm c hc
  obtain ⟨v, x1, e1, e2, e3⟩ := s_prep b D1 rm1 rb ha h1 (fun s hs p hp => by rw [si_rd, if_neg (by omega)]; exact hw s hs p hp)
  unfold F_X8_find
  rw [if_pos h7, sw, e1, Option.bind_some]
  dsimp only
  have fr0 : FnF σ x1 a2 := ⟨fun a h3 h4 h5 => by rw [e2.1 a h3]; funext j; rw [si_rd, if_neg (by omega)], e2.2⟩
  have k0 : x1.1 a2 0 = 1 := by rw [e2.1 a2 (by omega), si_rd, if_pos ⟨rfl, rfl⟩]
  rcases e3 with ⟨rfl, st, rs, un, T, re, p0⟩ | ⟨rfl, e3⟩
  · have e5 : (si x1 a2 1 1).1 a2 1 = 1 := by rw [si_rd, if_pos ⟨rfl, rfl⟩]
    rw [if_pos (Or.inr rfl), sw, e5, if_neg (by decide)]
    have p1 := PrS_o (τ := si x1 a2 1 1) (fun a i1 i2 => by funext j; rw [si_rd, if_neg (by omega)]) p0
    obtain ⟨φ, q, s1, s2, s3, s4, -, s5, s6, s7⟩ := s_seek b p1 h7 h2
    rw [s1, Option.bind_some]
    refine ⟨φ, rfl, ⟨fun a h3 h4 h5 => by rw [s2.1 a h3 h4 h5, ← fr0.1 a h3 h4 h5]; funext j; rw [si_rd, if_neg (by omega)], s2.2.trans fr0.2⟩, ?_, Or.inr ⟨s4.trans e5, q, s5, s6, s7⟩⟩
    rw [s3, si_rd, if_neg (by omega)]; exact k0
  · have e5 : (si x1 a2 1 0).1 a2 1 = 0 := by rw [si_rd, if_pos ⟨rfl, rfl⟩]
    rw [if_pos (Or.inl rfl), sw, e5, if_pos rfl]
    refine ⟨_, rfl, ⟨fun a h3 h4 h5 => by rw [← fr0.1 a h3 h4 h5]; funext j; rw [si_rd, if_neg (by omega)], fr0.2⟩, ?_, Or.inl ⟨?_, e3⟩⟩
    · rw [si_rd, if_neg (by omega)]; exact k0
    · rw [si_rd, if_pos ⟨rfl, rfl⟩]
