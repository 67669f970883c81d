/-! THE REFERENCE'S SEARCH: worths laid, the best row found -/
theorem zlt0F {a : Int} (h : 0 ≤ a ∧ a < 2147483648) : ¬ zI a < 0 := by rw [zl0]; exact zltF (by omega)
def LwF (σ τ : Sto) : Prop := (∀ a, ¬ (12 ≤ a ∧ a ≤ 14) → τ.1 a = σ.1 a) ∧ τ.2 = σ.2
theorem LwF_rfl (σ : Sto) : LwF σ σ := ⟨fun _ _ => rfl, rfl⟩
theorem LwF_tr {σ τ υ : Sto} (h : LwF σ τ) (k : LwF τ υ) : LwF σ υ := ⟨fun a q => (k.1 a q).trans (h.1 a q), k.2.trans h.2⟩
theorem LwF_si (σ : Sto) (a k : Nat) (x : Int32) (h : 12 ≤ a ∧ a ≤ 14) : LwF σ (si σ a k x) := ⟨fun b q => by funext j; rw [si_rd, if_neg (by omega)], rfl⟩
theorem MS_lw {σ τ : Sto} {μ : Nat → Int} {n : Nat} (f : LwF σ τ) (h : MS σ μ n) : MS τ μ n := by
  unfold MS at *
  rw [f.1 2 (by decide), f.1 0 (by decide)]
  exact h
def IgW (μ : Nat → Int) (ig : Int32) (w : Nat → Nat → Int) : Prop := (ig = 0 ∧ w = prw μ) ∨ (ig = 1 ∧ w = gow μ)
theorem Ig_bd {μ : Nat → Int} {n : Nat} {ig : Int32} {w : Nat → Nat → Int} (g : GdT μ n) (h : IgW μ ig w) : ∀ s, s < n → ∀ p, p ≤ 20 → -4000 ≤ w s p ∧ w s p ≤ 8000 := by
  intro s hs p hp
  rcases h with ⟨_, h⟩ | ⟨_, h⟩
  · have := pr_bd g hs (p := p) (by omega) (by omega)
    rw [h]; unfold prw; omega
  · rw [h]; exact go_bd g hs hp
theorem m_lays {σ : Sto} {μ : Nat → Int} {n c : Nat} {ig : Int32} {w : Nat → Nat → Int} (h : MS σ μ n) (g : Gd μ n c) (hi : IgW μ ig w) : ∃ (τ : Sto) (be : Nat → Int), F_X12_laysWorth σ ig = some τ ∧ LwF σ τ ∧ (∀ s, s < n → τ.1 14 s = zI (we μ s)) ∧ (∀ s, s < n → ∀ p, p ≤ 20 → τ.1 12 (21 * s + p) = zI (w s p)) ∧ (∀ t, t ≤ n → τ.1 13 t = zI (be t)) ∧ be n = 0 ∧ (∀ t, t < n → ∀ p, p ≤ 20 → w t p ≤ be t - be (t + 1)) ∧ ∀ t, t ≤ n → -100000 ≤ be t ∧ be t ≤ 100000 := by
  have h4 := g.1.2.1
  have wb := Ig_bd g.2.1 hi
  have inner : ∀ (K : Sto → Int32 → Int32 → Option Sto) (σ1 : Sto) (s : Nat) (ra : Int), s < n → LwF σ σ1 → σ1.1 13 (s + 1) = zI ra → ∀ (m p k : Nat) (τ : Sto) (top : Int), p + m = 21 → m < k → LwF σ τ → (∀ a j, a ≠ 12 ∨ ¬ (21 * s ≤ j ∧ j < 21 * s + 21) → τ.1 a j = σ1.1 a j) → (∀ j, j < p → τ.1 12 (21 * s + j) = zI (w s j) ∧ w s j ≤ top) → ((p = 0 ∧ top = -100000000) ∨ (-4000 ≤ top ∧ top ≤ 8000)) →
      ∃ (υ : Sto) (top' : Int), F_X12_laysWorth_39 K k τ ig (zI s) (zI top) (zI p) = K υ ig (zI ((s : Int) - 1)) ∧ LwF σ υ ∧ (∀ a j, ¬ (a = 12 ∧ 21 * s ≤ j ∧ j < 21 * s + 21) → ¬ (a = 13 ∧ j = s) → υ.1 a j = σ1.1 a j) ∧ (∀ j, j ≤ 20 → υ.1 12 (21 * s + j) = zI (w s j) ∧ w s j ≤ top') ∧ υ.1 13 s = zI (ra + top') ∧ -4000 ≤ top' ∧ top' ≤ 8000 := by
    intro K σ1 s ra hs f0 hra m
    induction m with
    | zero =>
      intro p k τ top h1 h2 f fr hp ht
      obtain ⟨k, rfl⟩ : ∃ j, k = j + 1 := ⟨k - 1, by omega⟩
      rw [F_X12_laysWorth_39, zl20, if_pos (zltT (by omega))]
      simp (disch := omega) only [zl1, zI_neg, zI_add, zI_ib, zI_ix, Int.toNat_natCast]
      rw [if_pos (by omega), if_pos (by omega), sw, show ((s : Int) + 1).toNat = s + 1 by omega, fr 13 (s + 1) (by omega), hra, zI_add]
      refine ⟨_, top, rfl, LwF_tr f (LwF_si _ 13 _ _ (by omega)), fun a j q1 q2 => ?_, fun j hj => ?_, ?_, by omega, by omega⟩
      · rw [si_rd, if_neg (by omega)]; exact fr a j (by omega)
      · rw [si_rd, if_neg (by omega)]; exact hp j (by omega)
      · rw [si_rd, if_pos ⟨rfl, rfl⟩]
    | succ m ih =>
      intro p k τ top h1 h2 f fr hp ht
      obtain ⟨k, rfl⟩ : ∃ j, k = j + 1 := ⟨k - 1, by omega⟩
      have wp := wb s hs p (by omega)
      have ms := MS_lw f h
      have step : F_X12_laysWorth_39 K (k + 1) τ ig (zI s) (zI top) (zI p) = F_X12_laysWorth_67 K (F_X12_laysWorth_39 K k) τ ig (zI s) (zI top) (zI p) (zI (w s p)) := by
        rw [F_X12_laysWorth_39, zl20, if_neg (zltF (by omega))]
        rcases hi with ⟨e1, e2⟩ | ⟨e1, e2⟩
        · rw [e1, if_pos rfl, m_profit ms g.2.1 h4 hs (by omega) (by omega), Option.bind_some, e2]; rfl
        · rw [e1, if_neg (by decide), m_good ms g.2.1 h4 hs (by omega), Option.bind_some, e2]; rfl
      rw [step]
      unfold F_X12_laysWorth_67
      simp (disch := omega) only [zl21, zI_mul, zI_add, zI_ib, zI_ix, Int.toNat_natCast]
      rw [if_pos (by omega), sw, show ((21 : Int) * s + p).toNat = 21 * s + p by omega, zI_s1]
      have f' : LwF σ (si τ 12 (21 * s + p) (zI (w s p))) := LwF_tr f (LwF_si _ 12 _ _ (by omega))
      have fr' : ∀ a j, a ≠ 12 ∨ ¬ (21 * s ≤ j ∧ j < 21 * s + 21) → (si τ 12 (21 * s + p) (zI (w s p))).1 a j = σ1.1 a j := fun a j q => by rw [si_rd, if_neg (by omega)]; exact fr a j q
      have cell : ∀ j, j < p + 1 → (si τ 12 (21 * s + p) (zI (w s p))).1 12 (21 * s + j) = zI (w s j) := by
        intro j hj
        rw [si_rd]
        by_cases q : j = p
        · rw [if_pos ⟨rfl, by omega⟩, q]
        · rw [if_neg (by omega)]; exact (hp j (by omega)).1
      by_cases q : w s p ≤ top
      · rw [if_pos (zleT (by omega))]
        refine ih (p + 1) k _ top (by omega) (by omega) f' fr' (fun j hj => ⟨cell j hj, ?_⟩) (by omega)
        by_cases e : j = p
        · rw [e]; exact q
        · exact (hp j (by omega)).2
      · rw [if_neg (zleF (by omega))]
        refine ih (p + 1) k _ (w s p) (by omega) (by omega) f' fr' (fun j hj => ⟨cell j hj, ?_⟩) (by omega)
        by_cases e : j = p
        · rw [e]; exact Int.le_refl _
        · have := (hp j (by omega)).2; omega
  have outer : ∀ (d k : Nat) (τ : Sto) (be : Nat → Int), d ≤ n → d < k → LwF σ τ → (∀ s, d ≤ s → s < n → τ.1 14 s = zI (we μ s)) → (∀ s, d ≤ s → s < n → ∀ p, p ≤ 20 → τ.1 12 (21 * s + p) = zI (w s p)) → (∀ t, d ≤ t → t ≤ n → τ.1 13 t = zI (be t)) → be n = 0 → (∀ t, d ≤ t → t < n → ∀ p, p ≤ 20 → w t p ≤ be t - be (t + 1)) → (∀ t : Nat, d ≤ t → t ≤ n → -8000 * ((n : Int) - t) ≤ be t ∧ be t ≤ 8000 * ((n : Int) - t)) →
      ∃ (υ : Sto) (be : Nat → Int), F_X12_laysWorth_17 k τ ig (zI ((d : Int) - 1)) = some υ ∧ LwF σ υ ∧ (∀ s, s < n → υ.1 14 s = zI (we μ s)) ∧ (∀ s, s < n → ∀ p, p ≤ 20 → υ.1 12 (21 * s + p) = zI (w s p)) ∧ (∀ t, t ≤ n → υ.1 13 t = zI (be t)) ∧ be n = 0 ∧ (∀ t, t < n → ∀ p, p ≤ 20 → w t p ≤ be t - be (t + 1)) ∧ ∀ t, t ≤ n → -100000 ≤ be t ∧ be t ≤ 100000 := by
    intro d
    induction d with
    | zero =>
      intro k τ be h1 h2 f c1 c2 c3 c4 c5 c6
      obtain ⟨k, rfl⟩ : ∃ j, k = j + 1 := ⟨k - 1, by omega⟩
      refine ⟨τ, be, ?_, f, fun s hs => c1 s (Nat.zero_le _) hs, fun s hs => c2 s (Nat.zero_le _) hs, fun t ht => c3 t (Nat.zero_le _) ht, c4, fun t ht => c5 t (Nat.zero_le _) ht, fun t ht => ?_⟩
      · rw [F_X12_laysWorth_17, if_pos (by decide)]
      · have := c6 t (Nat.zero_le _) ht; omega
    | succ d ih =>
      intro k τ be h1 h2 f c1 c2 c3 c4 c5 c6
      obtain ⟨k, rfl⟩ : ∃ j, k = j + 1 := ⟨k - 1, by omega⟩
      have hd : d < n := by omega
      have f1 : LwF σ (si τ 14 d (zI (we μ d))) := LwF_tr f (LwF_si _ 14 _ _ (by omega))
      obtain ⟨υ, top, u1, u2, u3, u4, u5, u6, u7⟩ := inner (F_X12_laysWorth_17 k) (si τ 14 d (zI (we μ d))) d (be (d + 1)) hd f1 (by rw [si_rd, if_neg (by omega)]; exact c3 (d + 1) (by omega) (by omega)) 21 0 FU (si τ 14 d (zI (we μ d))) (-100000000) (by omega) (FU_lt (by omega)) f1 (fun _ _ _ => rfl) (fun j hj => by omega) (Or.inl ⟨rfl, rfl⟩)
      rw [F_X12_laysWorth_17, show ((d + 1 : Nat) : Int) - 1 = (d : Int) by omega, if_neg (zlt0F (by omega)), m_weight (MS_lw f h) g hd, Option.bind_some]
      simp (disch := omega) only [zI_ib, zI_ix, Int.toNat_natCast]
      rw [if_pos (by omega), sw]
      have u1' : F_X12_laysWorth_39 (F_X12_laysWorth_17 k) FU (si τ 14 d (zI (we μ d))) ig (zI d) (-100000000) 0 = _ := u1
      rw [u1']
      have b1 := c6 (d + 1) (by omega) (by omega)
      refine ih k υ (rpd be d (be (d + 1) + top)) (by omega) (by omega) u2 (fun s s1 s2 => ?_) (fun s s1 s2 p hp => ?_) (fun t t1 t2 => ?_) ?_ (fun t t1 t2 p hp => ?_) (fun t t1 t2 => ?_)
      · rw [u3 14 s (by omega) (by omega), si_rd]
        by_cases e : s = d
        · rw [if_pos ⟨rfl, e⟩, e]
        · rw [if_neg (by omega)]; exact c1 s (by omega) s2
      · by_cases e : s = d
        · rw [e]; exact (u4 p hp).1
        · rw [u3 12 _ (by omega) (by omega), si_rd, if_neg (by omega)]; exact c2 s (by omega) s2 p hp
      · by_cases e : t = d
        · rw [e, rpd_s]; exact u5
        · rw [rpd_o _ _ e, u3 13 t (by omega) (by omega), si_rd, if_neg (by omega)]; exact c3 t (by omega) t2
      · rw [rpd_o _ _ (by omega)]; exact c4
      · by_cases e : t = d
        · subst e
          rw [rpd_s, rpd_o _ _ (by omega)]
          have := (u4 p hp).2; omega
        · rw [rpd_o _ _ e, rpd_o _ _ (by omega)]; exact c5 t (by omega) t2 p hp
      · by_cases e : t = d
        · subst e
          rw [rpd_s, show (n : Int) - t = ((n : Int) - ((t + 1 : Nat) : Int)) + 1 by omega, Int.mul_add, Int.mul_add]
          omega
        · rw [rpd_o _ _ e]; exact c6 t (by omega) t2
  unfold F_X12_laysWorth
  rw [h.2]
  simp (disch := omega) only [zI_ib, zI_ix, Int.toNat_natCast]
  rw [if_pos (by omega), sw, si_rd, if_neg (by omega), h.2, zl1, zI_sub]
  refine outer n FU _ (fun _ => 0) (Nat.le_refl _) (FU_lt (by omega)) (LwF_si _ 13 _ _ (by omega)) (fun s s1 s2 => by omega) (fun s s1 s2 => by omega) (fun t t1 t2 => ?_) rfl (fun t t1 t2 => by omega) (fun t t1 t2 => ?_)
  · rw [show t = n by omega, si_rd, if_pos ⟨rfl, rfl⟩]; rfl
  · rw [show (n : Int) - t = 0 by omega]; decide
/-- what a search of the reference leaves, and where it wrote -/
def FnM (v : Int32) (τ : Sto) (n L : Nat) (ld : Nat → Nat → Int) (R lo hi : Nat → Int) (w : Nat → Nat → Int) : Prop := (v = zI (-100000000) ∧ ∀ q, ¬ Fea n L ld R lo hi q) ∨ ∃ q, Opt n L ld R lo hi w q ∧ v = zI (vl n w q) ∧ ∀ s, s < n → τ.1 16 s = zI (q s)
def MfF (σ τ : Sto) : Prop := (∀ a, ¬ (a = 0 ∨ (12 ≤ a ∧ a ≤ 17)) → τ.1 a = σ.1 a) ∧ (∀ k, k ≠ 36 → τ.1 0 k = σ.1 0 k) ∧ τ.2 = σ.2
theorem MfF_ag {σ τ : Sto} (f : MfF σ τ) : AgM σ τ := by
  refine ⟨fun a k q => ?_, f.2.2⟩
  by_cases e : a = 0
  · subst e; exact f.2.1 k (by omega)
  · rw [f.1 a (by omega)]
theorem MfF_tr {σ τ υ : Sto} (h : MfF σ τ) (k : MfF τ υ) : MfF σ υ := ⟨fun a q => (k.1 a q).trans (h.1 a q), fun j q => (k.2.1 j q).trans (h.2.1 j q), k.2.2.trans h.2.2⟩
theorem FeM_1 {n nb : Nat} {μ : Nat → Int} {un : Nat → Nat → Int} {B lo hi : Nat → Int} (q : Nat → Int) : FeM n nb μ un (al μ n) B lo hi 0 q ↔ Fea n 1 (lds μ fun _ _ => 0) (rms μ n fun _ _ => 0) lo hi q := by
  constructor
  · rintro ⟨h1, h2, -⟩
    refine ⟨h1, fun c hc => ?_⟩
    rw [show c = 0 by omega]
    exact h2
  · rintro ⟨h1, h2⟩
    exact ⟨h1, h2 0 (by omega), fun h => absurd h (by decide)⟩
theorem FeM_G {n nb : Nat} {μ : Nat → Int} {un : Nat → Nat → Int} {lo hi : Nat → Int} (q : Nat → Int) : FeM n nb μ un (al μ n) (fun b => bu μ un n b 0) lo hi 1 q ↔ Fea n (1 + nb) (lds μ un) (rms μ n un) lo hi q := by
  constructor
  · rintro ⟨h1, h2, h3⟩
    refine ⟨h1, fun c hc => ?_⟩
    by_cases e : c = 0
    · rw [e]; exact h2
    · obtain ⟨b, rfl⟩ : ∃ b, c = b + 1 := ⟨c - 1, by omega⟩
      exact h3 rfl b (by omega)
  · rintro ⟨h1, h2⟩
    exact ⟨h1, h2 0 (by omega), fun _ b hb => h2 (b + 1) (by omega)⟩
theorem m_finds {σ : Sto} {μ : Nat → Int} {n nb c : Nat} {un : Nat → Nat → Int} {ig gf : Int32} {w : Nat → Nat → Int} {lo hi : Nat → Int} (h : MS σ μ n) (g : Gd μ n c) (h28 : σ.1 0 28 = zI nb) (hnb : nb ≤ 4) (hu : ∀ b, b < nb → ∀ s, s < n → σ.1 10 (4 * b + s) = zI (un b s)) (ub : ∀ b, b < nb → ∀ s, s < n → 0 ≤ un b s ∧ un b s ≤ 99) (hi' : IgW μ ig w) (h39 : σ.1 0 39 = gf) (hgf : gf = 0 ∨ gf = 1) (N : NrD σ μ lo hi) : ∃ (G : Int) (τ : Sto), F_X12_finds σ ig = some (zI G, τ) ∧ MfF σ τ ∧ ∃ F, BsR (EnM n) n w (FeM n nb μ un (al μ n) (fun b => bu μ un n b 0) lo hi gf) (-100000000) F G (τ.1 16) := by
  have h4 := g.1.2.1
  have A := al_bd0 g
  have wb := Ig_bd g.2.1 hi'
  have lh : ∀ s, s < n → 0 ≤ lo s ∧ hi s ≤ 20 := by
    intro s hs
    rcases N with ⟨_, n2, n3⟩ | ⟨d, _, _, _, n2, n3⟩
    · rw [n2, n3]; exact ⟨Int.le_refl _, Int.le_refl _⟩
    · rw [n2, n3]; unfold loD hiD; omega
  have Bb : ∀ b, b < nb → 0 ≤ bu μ un n b 0 ∧ bu μ un n b 0 ≤ 7920 := by
    intro b hb
    have := sz_bd (n := n) (f := fun s => un b s * μ (7 * s + 0)) (a := 0) (b := 1980) (fun s hs => mul_bd (a := 99) (b := 20) (ub b hb s hs).1 (ub b hb s hs).2 (g.2.2.1 s hs).1.1 (g.2.2.1 s hs).1.2)
    unfold bu
    omega
  obtain ⟨x1, be, l1, l2, l3, l4, l5, l6, l7, l8⟩ := m_lays h g hi'
  have f0 : MfF σ (si x1 0 36 (-100000000)) := by
    refine ⟨fun a q => ?_, fun k q => ?_, l2.2⟩
    · rw [← l2.1 a (by omega)]; funext j; rw [si_rd, if_neg (by omega)]
    · rw [si_rd, if_neg (by omega), l2.1 0 (by decide)]
  have T0 : TrD (si x1 0 36 (-100000000)) μ n nb un w be lo hi gf := by
    have m0 := MS_lw l2 h
    unfold TrD MS NrD at *
    simp (disch := omega) only [si_rd, if_neg]
    rw [l2.1 10 (by decide), l2.1 0 (by decide)]
    exact ⟨⟨m0.1, h.2⟩, h28, l3, hu, l4, l5, h39, N⟩
  unfold F_X12_finds
  rw [l1, Option.bind_some, sw]
  have e36 : (si x1 0 36 (-100000000)).1 0 36 = zI (-100000000) := by rw [si_rd, if_pos ⟨rfl, rfl⟩]; decide
  generalize si x1 0 36 (-100000000) = s1 at f0 T0 e36 ⊢
  have key : ∀ (m b k : Nat) (τ : Sto), b + m = nb → m < k → TrF s1 τ → τ.1 0 36 = zI (-100000000) → (∀ e, e < b → τ.1 17 e = zI (bu μ un n e 0)) → ∃ (G : Int) (υ : Sto), F_X12_finds_14 k τ (zI b) = some (zI G, υ) ∧ TrF s1 υ ∧ ∃ F, BsR (EnM n) n w (FeM n nb μ un (al μ n) (fun b => bu μ un n b 0) lo hi gf) (-100000000) F G (υ.1 16) := by
    intro m
    induction m with
    | zero =>
      intro b k τ k1 k2 f e hb
      obtain ⟨k, rfl⟩ : ∃ j, k = j + 1 := ⟨k - 1, by omega⟩
      have q : b = nb := k1
      subst q
      have T1 := TrD_f f T0
      obtain ⟨υ, G, u1, u2, u3, u4, u5, u6, u7⟩ := m_tries g hgf hnb ub wb lh l6 l7 l8 A (B := fun b => bu μ un n b 0) Bb 6 0 τ (fun _ => 0) (-100000000) (by omega) (by omega) T1 e (by omega) (fun t ht => by omega) (fun t ht => by omega) (by rw [sz]; exact A.1) (fun b hbb => by rw [hb b hbb]; congr 1; rw [sz]; omega) (fun _ b hbb => by rw [sz]; exact (Bb b hbb).1)
      have u1' : F_X12_tries 6 τ 0 (zI (al μ n)) 0 = some υ := by
        rw [sz, sz, Int.sub_zero] at u1
        exact u1
      refine ⟨G, υ, ?_, TrF_tr f u2, τ.1 16, BsR_cg (fun q => ⟨fun h => h.2, fun h => ⟨fun t ht => by omega, h⟩⟩) u7⟩
      rw [F_X12_finds_14, T1.2.1, if_pos (zleT (by omega)), m_allowed T1.1 g, Option.bind_some, u1', Option.bind_some, u5]
    | succ m ih =>
      intro b k τ k1 k2 f e hb
      obtain ⟨k, rfl⟩ : ∃ j, k = j + 1 := ⟨k - 1, by omega⟩
      have T1 := TrD_f f T0
      have mb : F_X12_burden τ (zI b) 0 = _ := m_burden (nb := nb) (b := b) (w := 0) T1.1 h4 (by omega) hnb (by omega) (T1.2.2.2.1 b (by omega))
      rw [F_X12_finds_14, T1.2.1, if_neg (zleF (by omega)), mb, Option.bind_some]
      simp (disch := omega) only [zI_ib, zI_ix, Int.toNat_natCast]
      rw [if_pos (by omega), sw, zI_s1]
      refine ih (b + 1) k _ (by omega) (by omega) (TrF_tr f (TrF_si _ 17 _ _ (by omega))) (by rw [si_rd, if_neg (by omega)]; exact e) (fun e he => ?_)
      rw [si_rd]
      by_cases q : e = b
      · rw [if_pos ⟨rfl, q⟩, q]
      · rw [if_neg (by omega)]; exact hb e (by omega)
  obtain ⟨G, υ, k1, k2, k3⟩ := key nb 0 FU s1 (by omega) (FU_lt (by omega)) (TrF_rfl s1) e36 (fun e he => by omega)
  exact ⟨G, υ, k1, MfF_tr f0 ⟨fun a q => k2.1 a (by omega), k2.2.1, k2.2.2⟩, k3⟩
theorem m_fea {n L : Nat} {w : Nat → Nat → Int} {ld : Nat → Nat → Int} {R lo hi : Nat → Int} {C : (Nat → Int) → Prop} {F : Nat → Int32} {G : Int} {τ : Sto} (n4 : n ≤ 4) (lh : ∀ s, s < n → 0 ≤ lo s ∧ hi s ≤ 20) (wb : ∀ s, s < n → ∀ p, p ≤ 20 → -4000 ≤ w s p ∧ w s p ≤ 8000) (e : ∀ q, C q ↔ Fea n L ld R lo hi q) (h : BsR (EnM n) n w C (-100000000) F G (τ.1 16)) : FnM (zI G) τ n L ld R lo hi w := by
  rcases Opt_bs (BsR_cg e h) (fun q hq => by
    have := sz_bd (n := n) (f := fun s => w s (q s).toNat) (a := -4000) (b := 8000) (fun s hs => by
      have a := lh s hs
      have b := hq.1 s hs
      exact wb s hs _ (by omega))
    unfold vl; omega) with ⟨h1, h2⟩ | ⟨q, h1, h2, h3⟩
  · exact Or.inl ⟨by rw [h1], h2⟩
  · exact Or.inr ⟨q, h1, by rw [h3], h2⟩
