/-! THE REFERENCE'S SEARCH -/
def TrF (σ τ : Sto) : Prop := (∀ a, ¬ (a = 0 ∨ a = 15 ∨ a = 16 ∨ a = 17) → τ.1 a = σ.1 a) ∧ (∀ k, k ≠ 36 → τ.1 0 k = σ.1 0 k) ∧ τ.2 = σ.2
theorem TrF_rfl (σ : Sto) : TrF σ σ := ⟨fun _ _ => rfl, fun _ _ => rfl, rfl⟩
theorem TrF_tr {σ τ υ : Sto} (h : TrF σ τ) (k : TrF τ υ) : TrF σ υ := ⟨fun a q => (k.1 a q).trans (h.1 a q), fun j q => (k.2.1 j q).trans (h.2.1 j q), k.2.2.trans h.2.2⟩
theorem TrF_si (σ : Sto) (a k : Nat) (x : Int32) (h : (a = 0 ∧ k = 36) ∨ a = 15 ∨ a = 16 ∨ a = 17) : TrF σ (si σ a k x) :=
  ⟨fun b q => by funext j; rw [si_rd, if_neg (by omega)], fun j q => by rw [si_rd, if_neg (by omega)], rfl⟩
def NrD (σ : Sto) (μ : Nat → Int) (lo hi : Nat → Int) : Prop := (σ.1 0 38 = -1 ∧ lo = lo0 ∧ hi = hi0) ∨ ∃ d : Int, 0 ≤ d ∧ d ≤ 20 ∧ σ.1 0 38 = zI d ∧ lo = loD μ d ∧ hi = hiD μ d
def TrD (σ : Sto) (μ : Nat → Int) (n nb : Nat) (un : Nat → Nat → Int) (w : Nat → Nat → Int) (be lo hi : Nat → Int) (gf : Int32) : Prop := MS σ μ n ∧ σ.1 0 28 = zI nb ∧ (∀ s, s < n → σ.1 14 s = zI (we μ s)) ∧ (∀ b, b < nb → ∀ s, s < n → σ.1 10 (4 * b + s) = zI (un b s)) ∧ (∀ s, s < n → ∀ p, p ≤ 20 → σ.1 12 (21 * s + p) = zI (w s p)) ∧ (∀ t, t ≤ n → σ.1 13 t = zI (be t)) ∧ σ.1 0 39 = gf ∧ NrD σ μ lo hi
theorem TrD_f {σ τ : Sto} {μ : Nat → Int} {n nb : Nat} {un : Nat → Nat → Int} {w : Nat → Nat → Int} {be lo hi : Nat → Int} {gf : Int32} (f : TrF σ τ) (h : TrD σ μ n nb un w be lo hi gf) : TrD τ μ n nb un w be lo hi gf := by
  unfold TrD MS NrD at *
  rw [f.1 2 (by decide), f.1 14 (by decide), f.1 10 (by decide), f.1 12 (by decide), f.1 13 (by decide), f.2.1 22 (by decide), f.2.1 28 (by decide), f.2.1 39 (by decide), f.2.1 38 (by decide)]
  exact h
theorem m_near {σ : Sto} {μ : Nat → Int} {n c : Nat} {lo hi : Nat → Int} (h : MS σ μ n) (g : Gd μ n c) (N : NrD σ μ lo hi) {s : Nat} (hs : s < n) {p : Int} (hp : 0 ≤ p ∧ p ≤ 20) : F_X12_isNear σ (zI s) (zI p) = some (if lo s ≤ p ∧ p ≤ hi s then 1 else 0) := by
  have h4 := g.1.2.1
  have e := (g.2.2.1 s hs).1
  unfold F_X12_isNear
  rcases N with ⟨n1, n2, n3⟩ | ⟨d, d1, d2, d3, d4, d5⟩
  · rw [if_pos n1, if_pos]
    · rfl
    · rw [n2, n3]; exact hp
  · rw [d3, if_neg (show ¬ zI d = -1 from by rw [zlm1, zI_eq (by omega) (by omega) (by omega) (by omega)]; omega), m_of0 h (by omega), Option.bind_some, Option.bind_some, zI_sub, zI_sub]
    have e1 : lo s = max 0 (μ (7 * s) - d) := by rw [d4]; rfl
    have e2 : hi s = min 20 (μ (7 * s) + d) := by rw [d5]; rfl
    by_cases q1 : d < p - μ (7 * s)
    · rw [if_pos (zltT (by omega)), if_neg (by omega)]
    · rw [if_neg (zltF (by omega))]
      by_cases q2 : d < μ (7 * s) - p
      · rw [if_pos (zltT (by omega)), if_neg (by omega)]
      · rw [if_neg (zltF (by omega)), if_pos (by omega)]; rfl
theorem zI_s1 (b : Nat) : zI (b : Int) + 1 = zI ((b + 1 : Nat) : Int) := by rw [zl1, zI_add]; rfl
theorem m_bears {σ : Sto} {n nb s : Nat} {un : Nat → Nat → Int} {B : Nat → Int} {gf : Int32} {x : Int} (h28 : σ.1 0 28 = zI nb) (hnb : nb ≤ 4) (h4 : n ≤ 4) (hs : s < n) (hu : ∀ b, b < nb → ∀ s, s < n → σ.1 10 (4 * b + s) = zI (un b s)) (h39 : σ.1 0 39 = gf) (hgf : gf = 0 ∨ gf = 1) (hB : ∀ b, b < nb → σ.1 17 b = zI (B b)) (bb : ∀ b, b < nb → -100000 ≤ B b - un b s * x ∧ B b - un b s * x ≤ 100000) :
    ∃ (f : Int32) (τ : Sto), F_X12_bears σ (zI s) (zI x) = some (f, τ) ∧ (∀ a, a ≠ 17 → τ.1 a = σ.1 a) ∧ τ.2 = σ.2 ∧ (∀ b, b < nb → τ.1 17 b = zI (B b - un b s * x)) ∧ ((f = 1 ∧ (gf = 1 → ∀ b, b < nb → 0 ≤ B b - un b s * x)) ∨ (f = 0 ∧ gf = 1 ∧ ∃ b, b < nb ∧ B b - un b s * x < 0)) := by
  have key : ∀ (m b k : Nat) (v : Int32) (τ : Sto), b + m = nb → m < k → (∀ a, a ≠ 17 → τ.1 a = σ.1 a) → τ.2 = σ.2 → (∀ e, e < nb → τ.1 17 e = if e < b then zI (B e - un e s * x) else zI (B e)) → ((v = 1 ∧ ∀ e, e < b → 0 ≤ B e - un e s * x) ∨ (v = 0 ∧ ∃ e, e < b ∧ B e - un e s * x < 0)) →
      ∃ (f : Int32) (υ : Sto), F_X12_bears_5 k τ (zI s) (zI x) v (zI b) = some (f, υ) ∧ (∀ a, a ≠ 17 → υ.1 a = σ.1 a) ∧ υ.2 = σ.2 ∧ (∀ b, b < nb → υ.1 17 b = zI (B b - un b s * x)) ∧ ((f = 1 ∧ (gf = 1 → ∀ b, b < nb → 0 ≤ B b - un b s * x)) ∨ (f = 0 ∧ gf = 1 ∧ ∃ b, b < nb ∧ B b - un b s * x < 0)) := by
    intro m
    induction m with
    | zero =>
      intro b k v τ h1 h2 f1 f2 hR hv
      obtain ⟨k, rfl⟩ : ∃ j, k = j + 1 := ⟨k - 1, by omega⟩
      have e : b = nb := h1
      subst e
      have hR' : ∀ e, e < b → τ.1 17 e = zI (B e - un e s * x) := fun e he => by rw [hR e he, if_pos he]
      rw [F_X12_bears_5, f1 0 (by decide), h28, if_pos (zleT (by omega)), h39]
      rcases hv with ⟨v1, hv⟩ | ⟨v1, e, e1, e2⟩
      · rw [v1, if_neg (by decide)]
        exact ⟨1, τ, rfl, f1, f2, hR', Or.inl ⟨rfl, fun _ => hv⟩⟩
      · rw [v1, if_pos rfl]
        rcases hgf with q | q
        · rw [q, if_pos rfl]
          exact ⟨1, τ, rfl, f1, f2, hR', Or.inl ⟨rfl, fun h => absurd h (by decide)⟩⟩
        · rw [q, if_neg (by decide)]
          exact ⟨0, τ, rfl, f1, f2, hR', Or.inr ⟨rfl, rfl, e, e1, e2⟩⟩
    | succ m ih =>
      intro b k v τ h1 h2 f1 f2 hR hv
      obtain ⟨k, rfl⟩ : ∃ j, k = j + 1 := ⟨k - 1, by omega⟩
      have hb : b < nb := by omega
      have rb := hR b hb
      rw [if_neg (by omega)] at rb
      have bd := bb b hb
      rw [F_X12_bears_5, f1 0 (by decide), h28, if_neg (zleF (by omega)), f1 10 (by decide)]
      simp (disch := omega) only [zl4, zI_mul, zI_add, zI_ib, zI_ix, Int.toNat_natCast]
      rw [if_pos (by omega), if_pos (by omega), sw, show ((4 : Int) * b + s).toNat = 4 * b + s by omega, hu b hb s hs, rb, zI_mul, zI_sub, show (si τ 17 b (zI (B b - un b s * x))).1 17 b = zI (B b - un b s * x) from by rw [si_rd, if_pos ⟨rfl, rfl⟩], zI_s1]
      have g1 : ∀ a, a ≠ 17 → (si τ 17 b (zI (B b - un b s * x))).1 a = σ.1 a := fun a ha => by rw [← f1 a ha]; funext j; rw [si_rd, if_neg (by omega)]
      have g3 : ∀ e, e < nb → (si τ 17 b (zI (B b - un b s * x))).1 17 e = if e < b + 1 then zI (B e - un e s * x) else zI (B e) := by
        intro e he
        rw [si_rd]
        by_cases q : e = b
        · rw [if_pos ⟨rfl, q⟩, if_pos (by omega), q]
        · rw [if_neg (by omega), hR e he]
          by_cases q2 : e < b
          · rw [if_pos q2, if_pos (by omega)]
          · rw [if_neg q2, if_neg (by omega)]
      rcases hv with ⟨v1, hv⟩ | ⟨v1, e, e1, e2⟩
      · rw [v1, if_neg (by decide), zl0]
        by_cases q : B b - un b s * x < 0
        · rw [if_pos (zltT (by omega))]
          exact ih (b + 1) k _ _ (by omega) (by omega) g1 f2 g3 (Or.inr ⟨rfl, b, by omega, q⟩)
        · rw [if_neg (zltF (by omega))]
          refine ih (b + 1) k _ _ (by omega) (by omega) g1 f2 g3 (Or.inl ⟨rfl, fun e he => ?_⟩)
          by_cases q2 : e = b
          · rw [q2]; omega
          · exact hv e (by omega)
      · rw [v1, if_pos rfl]
        exact ih (b + 1) k _ _ (by omega) (by omega) g1 f2 g3 (Or.inr ⟨rfl, e, by omega, e2⟩)
  unfold F_X12_bears
  have := key nb 0 FU 1 σ (by omega) (FU_lt (by omega)) (fun _ _ => rfl) rfl (fun e he => by rw [if_neg (by omega)]; exact hB e he) (Or.inl ⟨rfl, fun e he => by omega⟩)
  exact this
/-- rows as the reference goes through them -/
def FeM (n nb : Nat) (μ : Nat → Int) (un : Nat → Nat → Int) (A : Int) (B lo hi : Nat → Int) (gf : Int32) (q : Nat → Int) : Prop := (∀ s, s < n → lo s ≤ q s ∧ q s ≤ hi s) ∧ sz n (fun s => we μ s * q s) ≤ A ∧ (gf = 1 → ∀ b, b < nb → sz n (fun s => un b s * q s) ≤ B b)
def CMr (n nb : Nat) (μ : Nat → Int) (un : Nat → Nat → Int) (A : Int) (B lo hi : Nat → Int) (gf : Int32) (s : Nat) (r q : Nat → Int) : Prop := (∀ t, t < s → q t = r t) ∧ FeM n nb μ un A B lo hi gf q
def EnM (n : Nat) (q : Nat → Int) (F : Nat → Int32) : Prop := ∀ t, t < n → F t = zI (q t)
theorem m_prune {n : Nat} {w : Nat → Nat → Int} {be lo hi : Nat → Int} (lh : ∀ s, s < n → 0 ≤ lo s ∧ hi s ≤ 20) (b0 : be n = 0) (b1 : ∀ t, t < n → ∀ p, p ≤ 20 → w t p ≤ be t - be (t + 1)) {q : Nat → Int} (hq : ∀ s, s < n → lo s ≤ q s ∧ q s ≤ hi s) {s : Nat} (hs : s ≤ n) : vl n w q ≤ sz s (fun t => w t (q t).toNat) + be s := by
  have key : ∀ m, s ≤ m → m ≤ n → sz m (fun t => w t (q t).toNat) + be m ≤ sz s (fun t => w t (q t).toNat) + be s := by
    intro m
    induction m with
    | zero => intro h1 _; rw [show s = 0 by omega]; exact Int.le_refl _
    | succ m ih =>
      intro h1 h2
      by_cases e : s = m + 1
      · rw [e]; exact Int.le_refl _
      · have a := ih (by omega) (by omega)
        have c := lh m (by omega)
        have d := hq m (by omega)
        have f := b1 m (by omega) (q m).toNat (by omega)
        rw [sz]
        omega
  have := key n hs (Nat.le_refl _)
  unfold vl
  omega
theorem m_tries {μ : Nat → Int} {n nb c : Nat} {un : Nat → Nat → Int} {w : Nat → Nat → Int} {be lo hi B : Nat → Int} {gf : Int32} {A : Int} (g : Gd μ n c) (hgf : gf = 0 ∨ gf = 1) (hnb : nb ≤ 4) (ub : ∀ b, b < nb → ∀ s, s < n → 0 ≤ un b s ∧ un b s ≤ 99) (wb : ∀ s, s < n → ∀ p, p ≤ 20 → -4000 ≤ w s p ∧ w s p ≤ 8000) (lh : ∀ s, s < n → 0 ≤ lo s ∧ hi s ≤ 20) (b0 : be n = 0) (b1 : ∀ t, t < n → ∀ p, p ≤ 20 → w t p ≤ be t - be (t + 1)) (b2 : ∀ t, t ≤ n → -100000 ≤ be t ∧ be t ≤ 100000) (hA : 0 ≤ A ∧ A ≤ 3000000) (hB : ∀ b, b < nb → 0 ≤ B b ∧ B b ≤ 7920) :
    ∀ (dd s : Nat) (σ : Sto) (r : Nat → Int) (G : Int), s ≤ n → n < s + dd → TrD σ μ n nb un w be lo hi gf → σ.1 0 36 = zI G → (-100000000 ≤ G ∧ G ≤ 40000) → (∀ t, t < s → σ.1 15 t = zI (r t)) → (∀ t, t < s → lo t ≤ r t ∧ r t ≤ hi t) → sz s (fun t => we μ t * r t) ≤ A → (∀ b, b < nb → σ.1 17 b = zI (B b - sz s (fun t => un b t * r t))) → (gf = 1 → ∀ b, b < nb → sz s (fun t => un b t * r t) ≤ B b) →
    ∃ τ G', F_X12_tries dd σ (zI s) (zI (A - sz s (fun t => we μ t * r t))) (zI (sz s (fun t => w t (r t).toNat))) = some τ ∧ TrF σ τ ∧ (∀ t, t < s → τ.1 15 t = σ.1 15 t) ∧ (∀ b, b < nb → τ.1 17 b = σ.1 17 b) ∧ τ.1 0 36 = zI G' ∧ (-100000000 ≤ G' ∧ G' ≤ 40000) ∧ BsR (EnM n) n w (CMr n nb μ un A B lo hi gf s r) G (σ.1 16) G' (τ.1 16) := by
  have h4 := g.1.2.1
  intro dd
  induction dd with
  | zero => intro s σ r G h1 h2; omega
  | succ dd ih =>
    intro s σ r G hs hd D hG bG hr rl sA hb sB
    have sumb := sz_bd (n := s) (f := fun t => w t (r t).toNat) (a := -4000) (b := 8000) (fun t ht => by
      have a := lh t (by omega)
      have e := rl t ht
      exact wb t (by omega) _ (by omega))
    have wn := sz_bd (n := s) (f := fun t => we μ t * r t) (a := 0) (b := 4000) (fun t ht => by
      have a := lh t (by omega)
      have e := rl t ht
      have f := we_bd g (s := t) (by omega)
      exact mul_bd (a := 200) (b := 20) f.1 f.2 (by omega) (by omega))
    have un1 : ∀ b, b < nb → 0 ≤ sz s (fun t => un b t * r t) ∧ sz s (fun t => un b t * r t) ≤ 1980 * s := by
      intro b hb
      have := sz_bd (n := s) (f := fun t => un b t * r t) (a := 0) (b := 1980) (fun t ht => by
        have a := lh t (by omega)
        have e := rl t ht
        have f := ub b hb t (by omega)
        exact mul_bd (a := 99) (b := 20) f.1 f.2 (by omega) (by omega))
      omega
    have beb := b2 s hs
    have D' := D
    obtain ⟨hm, h28, hw14, hu, hw, hbe, h39, hN⟩ := D'
    rw [F_X12_tries, hG]
    simp (disch := omega) only [zI_ib, zI_ix, Int.toNat_natCast]
    rw [if_pos (by omega), hbe s hs, zI_add]
    by_cases pq : sz s (fun t => w t (r t).toNat) + be s ≤ G
    · rw [if_neg (zltF (by omega))]
      refine ⟨σ, G, rfl, TrF_rfl σ, fun _ _ => rfl, fun _ _ => rfl, hG, bG, BsR_none (fun q h => ?_)⟩
      have := m_prune lh b0 b1 h.2.1 hs
      rw [sz_cg (n := s) (f := fun t => w t (q t).toNat) (g := fun t => w t (r t).toNat) (fun t ht => by rw [h.1 t ht])] at this
      omega
    · rw [if_pos (zltT (by omega)), hm.2]
      by_cases sn : s = n
      · subst sn
        rw [if_pos rfl, sw]
        have cp : ∀ (m t k : Nat) (τ : Sto), t + m = s → m < k → TrF σ τ → τ.1 15 = σ.1 15 → τ.1 17 = σ.1 17 → τ.1 0 36 = zI (sz s (fun t => w t (r t).toNat)) → (∀ u, u < t → τ.1 16 u = zI (r u)) → ∃ υ, F_X12_tries_32 (F_X12_tries dd) k τ (zI t) = some υ ∧ TrF σ υ ∧ υ.1 15 = σ.1 15 ∧ υ.1 17 = σ.1 17 ∧ υ.1 0 36 = zI (sz s (fun t => w t (r t).toNat)) ∧ ∀ u, u < s → υ.1 16 u = zI (r u) := by
          intro m
          induction m with
          | zero =>
            intro t k τ l1 l2 f e15 e17 e36 e16
            obtain ⟨k, rfl⟩ : ∃ j, k = j + 1 := ⟨k - 1, by omega⟩
            refine ⟨τ, ?_, f, e15, e17, e36, fun u hu => e16 u (by omega)⟩
            rw [F_X12_tries_32, f.2.1 22 (by decide), hm.2, if_pos (zleT (by omega))]
          | succ m ih2 =>
            intro t k τ l1 l2 f e15 e17 e36 e16
            obtain ⟨k, rfl⟩ : ∃ j, k = j + 1 := ⟨k - 1, by omega⟩
            rw [F_X12_tries_32, f.2.1 22 (by decide), hm.2, if_neg (zleF (by omega))]
            simp (disch := omega) only [zI_ib, zI_ix, Int.toNat_natCast]
            rw [if_pos (by omega), sw, e15, hr t (by omega), zl1, zI_add, show (t : Int) + 1 = ((t + 1 : Nat) : Int) by omega]
            refine ih2 (t + 1) k _ (by omega) (by omega) (TrF_tr f (TrF_si _ 16 _ _ (by omega))) ?_ ?_ ?_ (fun u hu => ?_)
            · rw [← e15]; funext j; rw [si_rd, if_neg (by omega)]
            · rw [← e17]; funext j; rw [si_rd, if_neg (by omega)]
            · rw [si_rd, if_neg (by omega)]; exact e36
            · rw [si_rd]
              by_cases q : u = t
              · rw [if_pos ⟨rfl, q⟩, q]
              · rw [if_neg (by omega)]; exact e16 u (by omega)
        obtain ⟨υ, u1, u2, u3, u4, u5, u6⟩ := cp s 0 FU (si σ 0 36 (zI (sz s (fun t => w t (r t).toNat)))) (by omega) (FU_lt (by omega)) (TrF_si _ 0 36 _ (by omega)) (by funext j; rw [si_rd, if_neg (by omega)]) (by funext j; rw [si_rd, if_neg (by omega)]) (by rw [si_rd, if_pos ⟨rfl, rfl⟩]) (fun u hu => by omega)
        refine ⟨υ, sz s (fun t => w t (r t).toNat), u1, u2, fun t _ => by rw [u3], fun b _ => by rw [u4], u5, ⟨by omega, by omega⟩, Or.inr ⟨r, ⟨fun _ _ => rfl, rl, sA, sB⟩, u6, rfl, ?_, fun p hp => ⟨?_, fun _ => Or.inl hp.1⟩⟩⟩
        · rw [b0] at pq; omega
        · rw [vl_cg hp.1]; exact Int.le_refl _
      · have hs : s < n := by omega
        have web := we_bd g hs
        have lhs := lh s hs
        rw [if_neg (show ¬ zI (s : Int) = zI (n : Int) from by rw [zI_eq (by omega) (by omega) (by omega) (by omega)]; omega)]
        have fits : ∀ q, CMr n nb μ un A B lo hi gf s r q → we μ s * q s ≤ A - sz s (fun t => we μ t * r t) := by
          intro q h
          have a := h.2.2.1
          have e := sz_mono (f := fun t => we μ t * q t) (m := s + 1) (n := n) (by omega) (fun t ht => by
            have a := lh t ht
            have e := h.2.1 t ht
            exact Int.mul_nonneg (we_bd g ht).1 (by omega))
          rw [sz, sz_cg (n := s) (f := fun t => we μ t * q t) (g := fun t => we μ t * r t) (fun t ht => by rw [h.1 t ht])] at e
          omega
        have fitB : ∀ q, CMr n nb μ un A B lo hi gf s r q → gf = 1 → ∀ b, b < nb → un b s * q s ≤ B b - sz s (fun t => un b t * r t) := by
          intro q h hg b hb
          have a := h.2.2.2 hg b hb
          have e := sz_mono (f := fun t => un b t * q t) (m := s + 1) (n := n) (by omega) (fun t ht => by
            have a := lh t ht
            have e := h.2.1 t ht
            exact Int.mul_nonneg (ub b hb t ht).1 (by omega))
          rw [sz, sz_cg (n := s) (f := fun t => un b t * q t) (g := fun t => un b t * r t) (fun t ht => by rw [h.1 t ht])] at e
          omega
        have key : ∀ (m p k : Nat) (τ : Sto) (G1 : Int), p + m = 21 → m < k → TrF σ τ → (∀ t, t < s → τ.1 15 t = σ.1 15 t) → (∀ b, b < nb → τ.1 17 b = σ.1 17 b) → τ.1 0 36 = zI G1 → (-100000000 ≤ G1 ∧ G1 ≤ 40000) → BsR (EnM n) n w (fun q => CMr n nb μ un A B lo hi gf s r q ∧ q s < p) G (σ.1 16) G1 (τ.1 16) →
            ∃ υ G', F_X12_tries_65 (F_X12_tries dd) k τ (zI s) (zI (A - sz s (fun t => we μ t * r t))) (zI (sz s (fun t => w t (r t).toNat))) (zI p) = some υ ∧ TrF σ υ ∧ (∀ t, t < s → υ.1 15 t = σ.1 15 t) ∧ (∀ b, b < nb → υ.1 17 b = σ.1 17 b) ∧ υ.1 0 36 = zI G' ∧ (-100000000 ≤ G' ∧ G' ≤ 40000) ∧ BsR (EnM n) n w (CMr n nb μ un A B lo hi gf s r) G (σ.1 16) G' (υ.1 16) := by
          intro m
          induction m with
          | zero =>
            intro p k τ G1 l1 l2 f e15 e17 e36 bG1 Bz
            obtain ⟨k, rfl⟩ : ∃ j, k = j + 1 := ⟨k - 1, by omega⟩
            refine ⟨τ, G1, ?_, f, e15, e17, e36, bG1, BsR_cg (fun q => ⟨fun h => h.1, fun h => ⟨h, ?_⟩⟩) Bz⟩
            · rw [F_X12_tries_65, zl20, if_pos (zltT (by omega))]
            · have := h.2.1 s hs; omega
          | succ m ih2 =>
            intro p k τ G1 l1 l2 f e15 e17 e36 bG1 Bz
            obtain ⟨k, rfl⟩ : ∃ j, k = j + 1 := ⟨k - 1, by omega⟩
            have Dt := TrD_f f D
            have pw := mul_bd (a := 20) (b := 200) (show 0 ≤ (p : Int) by omega) (show (p : Int) ≤ 20 by omega) web.1 web.2
            rw [F_X12_tries_65, zl20, if_neg (zltF (by omega))]
            simp (disch := omega) only [zI_ib, zI_ix, Int.toNat_natCast]
            rw [if_pos (by omega), Dt.2.2.1 s hs, zI_mul]
            by_cases br : A - sz s (fun t => we μ t * r t) < p * we μ s
            · rw [if_pos (zltT (by omega))]
              refine ⟨τ, G1, rfl, f, e15, e17, e36, bG1, BsR_cg (fun q => ⟨fun h => h.1, fun h => ⟨h, ?_⟩⟩) Bz⟩
              have a := fits q h
              by_cases qq : q s < p
              · exact qq
              · have := Int.mul_le_mul_of_nonneg_left (a := (p : Int)) (b := q s) (c := we μ s) (by omega) web.1
                rw [Int.mul_comm] at this
                omega
            · rw [if_neg (zltF (by omega)), m_near Dt.1 g Dt.2.2.2.2.2.2.2 hs (p := p) (by omega), Option.bind_some]
              have cu : ∀ q, (CMr n nb μ un A B lo hi gf s r q ∧ q s < p) ∨ CMr n nb μ un A B lo hi gf (s + 1) (rpd r s p) q ↔ CMr n nb μ un A B lo hi gf s r q ∧ q s < ((p + 1 : Nat) : Int) := by
                intro q
                constructor
                · rintro (⟨h, j⟩ | h)
                  · exact ⟨h, by omega⟩
                  · refine ⟨⟨fun t ht => ?_, h.2⟩, ?_⟩
                    · rw [h.1 t (by omega), rpd_o _ _ (by omega)]
                    · rw [h.1 s (by omega), rpd_s]; omega
                · rintro ⟨h, j⟩
                  by_cases e : q s = p
                  · refine Or.inr ⟨fun t ht => ?_, h.2⟩
                    by_cases e3 : t = s
                    · rw [e3, rpd_s, e]
                    · rw [rpd_o _ _ e3]; exact h.1 t (by omega)
                  · exact Or.inl ⟨h, by omega⟩
              have cl : ∀ a q, (CMr n nb μ un A B lo hi gf s r a ∧ a s < p) → CMr n nb μ un A B lo hi gf (s + 1) (rpd r s p) q → Lex n a q := by
                rintro a q ⟨h, j⟩ h5
                refine ⟨s, hs, fun t ht => ?_, ?_⟩
                · rw [h.1 t ht, h5.1 t (by omega), rpd_o _ _ (by omega)]
                · rw [h5.1 s (by omega), rpd_s]; exact j
              have toC : ∀ q, CMr n nb μ un A B lo hi gf (s + 1) (rpd r s p) q → CMr n nb μ un A B lo hi gf s r q ∧ q s = p := fun q h => ⟨⟨fun t ht => by rw [h.1 t (by omega), rpd_o _ _ (by omega)], h.2⟩, by rw [h.1 s (by omega), rpd_s]⟩
              by_cases nr : lo s ≤ (p : Int) ∧ (p : Int) ≤ hi s
              · rw [if_pos nr, if_neg (by decide), sw]
                have f1 : TrF τ (si τ 15 s (zI p)) := TrF_si _ 15 _ _ (by omega)
                have Ds := TrD_f f1 Dt
                have up : ∀ b, b < nb → 0 ≤ un b s * p ∧ un b s * p ≤ 1980 := fun b hb => mul_bd (a := 99) (b := 20) (ub b hb s hs).1 (ub b hb s hs).2 (by omega) (by omega)
                have e17' : ∀ b, b < nb → (si τ 15 s (zI p)).1 17 b = zI (B b - sz s (fun t => un b t * r t)) := fun b hbb => by rw [si_rd, if_neg (by omega), e17 b hbb]; exact hb b hbb
                obtain ⟨fl, x2, a1, a2, a3, a5, a6⟩ := m_bears (n := n) (s := s) (un := un) (x := p) Ds.2.1 hnb h4 hs Ds.2.2.2.1 Ds.2.2.2.2.2.2.1 hgf e17' (fun b hbb => by have := up b hbb; have := un1 b hbb; have := hB b hbb; omega)
                have f2 : TrF τ x2 := TrF_tr f1 ⟨fun a ha => a2 a (by omega), fun k hk => by rw [a2 0 (by decide)], a3⟩
                have D2 := TrD_f f2 Dt
                have el : ∀ b, sz (s + 1) (fun t => un b t * rpd r s p t) = sz s (fun t => un b t * r t) + un b s * p := by
                  intro b
                  rw [sz, rpd_s, sz_rpd (f := fun t x => un b t * x)]
                have ew : sz (s + 1) (fun t => we μ t * rpd r s p t) = sz s (fun t => we μ t * r t) + we μ s * p := by
                  rw [sz, rpd_s, sz_rpd (f := fun t x => we μ t * x)]
                have ev : sz (s + 1) (fun t => w t (rpd r s p t).toNat) = sz s (fun t => w t (r t).toNat) + w s p := by
                  rw [sz, rpd_s, sz_rpd (f := fun t x => w t x.toNat)]; rfl
                have v15 : ∀ t, t < s → x2.1 15 t = σ.1 15 t := fun t ht => by rw [a2 15 (by decide), si_rd, if_neg (by omega)]; exact e15 t ht
                have v36 : x2.1 0 36 = zI G1 := by rw [a2 0 (by decide), si_rd, if_neg (by omega)]; exact e36
                have v16 : x2.1 16 = τ.1 16 := by rw [a2 16 (by decide)]; funext j; rw [si_rd, if_neg (by omega)]
                -- taking the price off again
                have offT : ∀ (y : Sto) (G2 : Int), TrF σ y → (∀ t, t < s → y.1 15 t = σ.1 15 t) → (∀ b, b < nb → y.1 17 b = zI (B b - sz s (fun t => un b t * r t) - un b s * p)) → y.1 0 36 = zI G2 → (-100000000 ≤ G2 ∧ G2 ≤ 40000) → BsR (EnM n) n w (fun q => CMr n nb μ un A B lo hi gf s r q ∧ q s < ((p + 1 : Nat) : Int)) G (σ.1 16) G2 (y.1 16) →
                    ∃ υ G', F_X12_tries_148 (F_X12_tries dd) (F_X12_tries_65 (F_X12_tries dd) k) y (zI s) (zI (A - sz s (fun t => we μ t * r t))) (zI (sz s (fun t => w t (r t).toNat))) (zI p) = some υ ∧ TrF σ υ ∧ (∀ t, t < s → υ.1 15 t = σ.1 15 t) ∧ (∀ b, b < nb → υ.1 17 b = σ.1 17 b) ∧ υ.1 0 36 = zI G' ∧ (-100000000 ≤ G' ∧ G' ≤ 40000) ∧ BsR (EnM n) n w (CMr n nb μ un A B lo hi gf s r) G (σ.1 16) G' (υ.1 16) := by
                  intro y G2 fy y15 y17 y36 bG2 By
                  have Dy := TrD_f fy D
                  obtain ⟨fl, x4, c1, c2, c3, c5, c6⟩ := m_bears (n := n) (s := s) (un := un) (x := -(p : Int)) Dy.2.1 hnb h4 hs Dy.2.2.2.1 Dy.2.2.2.2.2.2.1 hgf y17 (fun b hbb => by rw [Int.mul_neg]; have := up b hbb; have := un1 b hbb; have := hB b hbb; omega)
                  unfold F_X12_tries_148
                  rw [zI_neg, c1, Option.bind_some, zl1, zI_add, show (p : Int) + 1 = ((p + 1 : Nat) : Int) by omega]
                  refine ih2 (p + 1) k x4 G2 (by omega) (by omega) (TrF_tr fy ⟨fun a ha => c2 a (by omega), fun k hk => by rw [c2 0 (by decide)], c3⟩) (fun t ht => by rw [c2 15 (by decide)]; exact y15 t ht) (fun b hbb => ?_) (by rw [c2 0 (by decide)]; exact y36) bG2 (by rw [c2 16 (by decide)]; exact By)
                  rw [c5 b hbb, hb b hbb, Int.mul_neg]; congr 1; omega
                rw [a1, Option.bind_some]
                rcases a6 with ⟨g1, g2⟩ | ⟨g1, g2, b, g3, g5⟩
                · dsimp only
                  rw [g1, if_neg (by decide)]
                  simp (disch := omega) only [zl21, zl1, zI_mul, zI_add, zI_ib, zI_ix, Int.toNat_natCast]
                  rw [if_pos (by omega), show ((21 : Int) * s + p).toNat = 21 * s + p by omega, D2.2.2.1 s hs, D2.2.2.2.2.1 s hs p (by omega), zI_mul, zI_sub, zI_add, ← ev, show A - sz s (fun t => we μ t * r t) - (p : Int) * we μ s = A - sz (s + 1) (fun t => we μ t * rpd r s p t) by rw [ew, Int.mul_comm]; omega, show (s : Int) + 1 = ((s + 1 : Nat) : Int) by omega]
                  obtain ⟨x3, G2, i1, i2, i3, i4, i5, i6, i7⟩ := ih (s + 1) x2 (rpd r s p) G1 (by omega) (by omega) D2 v36 bG1 (fun t ht => by
                      by_cases e3 : t = s
                      · rw [e3, rpd_s, a2 15 (by decide), si_rd, if_pos ⟨rfl, rfl⟩]
                      · rw [rpd_o _ _ e3, v15 t (by omega)]; exact hr t (by omega)) (fun t ht => by
                      by_cases e3 : t = s
                      · rw [e3, rpd_s]; exact nr
                      · rw [rpd_o _ _ e3]; exact rl t (by omega)) (by rw [ew, Int.mul_comm]; omega) (fun b hbb => by rw [a5 b hbb, el]; congr 1; omega) (fun hg b hbb => by
                      have := g2 hg b hbb
                      rw [el]; omega)
                  rw [i1, Option.bind_some]
                  rw [v16] at i7
                  exact offT x3 G2 (TrF_tr f (TrF_tr f2 i2)) (fun t ht => by rw [i3 t (by omega)]; exact v15 t ht) (fun b hbb => by rw [i4 b hbb]; exact a5 b hbb) i5 i6 (BsR_cg cu (BsR_tr Bz i7 cl))
                · dsimp only
                  rw [g1, if_pos rfl]
                  refine offT x2 G1 (TrF_tr f f2) v15 a5 v36 bG1 ?_
                  rw [v16]
                  refine BsR_cg cu (BsR_tr Bz (BsR_none (fun q h => ?_)) cl)
                  have a := toC q h
                  have := fitB q a.1 g2 b g3
                  rw [a.2] at this
                  omega
              · rw [if_neg nr, if_pos rfl, zl1, zI_add, show (p : Int) + 1 = ((p + 1 : Nat) : Int) by omega]
                refine ih2 (p + 1) k τ G1 (by omega) (by omega) f e15 e17 e36 bG1 (BsR_cg cu (BsR_tr Bz (BsR_none (fun q h => ?_)) cl))
                have a := toC q h
                have := a.1.2.1 s hs
                rw [a.2] at this
                exact absurd this nr
        rw [zl0]
        exact key 21 0 FU σ G (by omega) (FU_lt (by omega)) (TrF_rfl σ) (fun _ _ => rfl) (fun _ _ => rfl) hG bG (BsR_none (fun q h => by have := h.1.2.1 s hs; have := h.2; omega))
