/-! A TRADE -/
def tkF (μ : Nat → Int) (D : Int) (s u : Nat) : Nat → Nat → Option Nat
  | 0, _ => none
  | d + 1, k => if we μ s - (k : Int) * we μ u ≤ D then some k else tkF μ D s u d (k + 1)
theorem tkF_le {μ : Nat → Int} {D : Int} {s u : Nat} : ∀ {d k x : Nat}, tkF μ D s u d k = some x → x < k + d
  | 0, _, _, h => by cases h
  | d + 1, k, x, h => by
    unfold tkF at h
    by_cases q : we μ s - (k : Int) * we μ u ≤ D
    · rw [if_pos q] at h
      cases h
      omega
    · rw [if_neg q] at h
      have := tkF_le h
      omega
def tv (μ : Nat → Int) (n s u k : Nat) : Int := allP μ n - pr μ s (μ (7 * s + 1)) + pr μ s (μ (7 * s + 1) + 1) - pr μ u (μ (7 * u + 1)) + pr μ u (μ (7 * u + 1) - k)
def tup (μ : Nat → Int) (n : Nat) (o : Option (Nat × Nat × Nat)) (s u k : Nat) : Option (Nat × Nat × Nat) := match o with
  | none => some (s, u, k)
  | some x => if tv μ n s u k ≤ tv μ n x.1 x.2.1 x.2.2 then some x else some (s, u, k)
def tnx (μ : Nat → Int) (n : Nat) (o : Option (Nat × Nat × Nat)) (s u : Nat) (x : Option Nat) : Option (Nat × Nat × Nat) := match x with
  | none => o
  | some k => tup μ n o s u k
def tst (μ : Nat → Int) (n : Nat) (D : Int) (o : Option (Nat × Nat × Nat)) (s u : Nat) : Option (Nat × Nat × Nat) := if s = u ∨ μ (7 * s + 1) = 20 then o else tnx μ n o s u (tkF μ D s u (μ (7 * u + 1) + 1).toNat 0)
def tI (μ : Nat → Int) (n : Nat) (D : Int) (s : Nat) : Nat → Nat → Option (Nat × Nat × Nat) → Option (Nat × Nat × Nat)
  | 0, _, o => o
  | d + 1, u, o => tI μ n D s d (u + 1) (tst μ n D o s u)
def tO (μ : Nat → Int) (n : Nat) (D : Int) : Nat → Nat → Option (Nat × Nat × Nat) → Option (Nat × Nat × Nat)
  | 0, _, o => o
  | d + 1, s, o => tO μ n D d (s + 1) (tI μ n D s n 0 o)
/-- a trade that is one -/
def tOk1 (μ : Nat → Int) (n s u k : Nat) : Prop := s < n ∧ u < n ∧ s ≠ u ∧ μ (7 * s + 1) ≤ 19 ∧ (k : Int) ≤ μ (7 * u + 1)
def tOk (μ : Nat → Int) (n : Nat) (o : Option (Nat × Nat × Nat)) : Prop := ∀ x, o = some x → tOk1 μ n x.1 x.2.1 x.2.2
theorem tv_bd {μ : Nat → Int} {n c s u k : Nat} (g : Gd μ n c) (h : tOk1 μ n s u k) : -32000 ≤ tv μ n s u k ∧ tv μ n s u k ≤ 32000 := by
  obtain ⟨h1, h2, h3, h4, h5⟩ := h
  have a := allP_bd g
  have ns := (g.2.2.1 s h1).2.1
  have nu := (g.2.2.1 u h2).2.1
  have b1 := pr_bd g.2.1 h1 ns.1 ns.2
  have b2 := pr_bd g.2.1 h1 (p := μ (7 * s + 1) + 1) (by omega) (by omega)
  have b3 := pr_bd g.2.1 h2 nu.1 nu.2
  have b4 := pr_bd g.2.1 h2 (p := μ (7 * u + 1) - k) (by omega) (by omega)
  unfold tv
  omega
theorem tup_ok {μ : Nat → Int} {n : Nat} {o : Option (Nat × Nat × Nat)} {s u k : Nat} (h : tOk μ n o) (k1 : tOk1 μ n s u k) : tOk μ n (tup μ n o s u k) := by
  intro x hx
  cases o with
  | none => cases hx; exact k1
  | some y =>
    unfold tup at hx
    dsimp only at hx
    by_cases q : tv μ n s u k ≤ tv μ n y.1 y.2.1 y.2.2
    · rw [if_pos q] at hx
      cases hx
      exact h _ rfl
    · rw [if_neg q] at hx
      cases hx
      exact k1
/-- the reference -/
def RfT (τ : Sto) (μ : Nat → Int) (n : Nat) (o : Option (Nat × Nat × Nat)) : Prop := match o with
  | none => τ.1 0 42 = -1
  | some x => τ.1 0 41 = zI (tv μ n x.1 x.2.1 x.2.2) ∧ τ.1 0 42 = zI x.1 ∧ τ.1 0 43 = zI x.2.1 ∧ τ.1 0 44 = zI x.2.2
def TmF (σ τ : Sto) : Prop := (∀ a k, ¬ (a = 0 ∧ 41 ≤ k ∧ k ≤ 44) → τ.1 a k = σ.1 a k) ∧ τ.2 = σ.2
theorem TmF_si {σ τ : Sto} (h : TmF σ τ) {k : Nat} {x : Int32} (hk : 41 ≤ k ∧ k ≤ 44) : TmF σ (si τ 0 k x) := ⟨fun a j q => by rw [si_rd, if_neg (by omega)]; exact h.1 a j q, h.2⟩
theorem MS_tm {σ τ : Sto} {μ : Nat → Int} {n : Nat} (f : TmF σ τ) (h : MS σ μ n) : MS τ μ n := ⟨fun k hk => by rw [f.1 2 k (by omega)]; exact h.1 k hk, by rw [f.1 0 22 (by omega)]; exact h.2⟩
theorem m_tr92 {s1 τ : Sto} {n c s u k : Nat} {μ : Nat → Int} {D : Int} {o : Option (Nat × Nat × Nat)} (K17 : Sto → Int32 → Int32 → Option (Int32 × Sto)) (K27 : Sto → Int32 → Int32 → Int32 → Option (Int32 × Sto)) (m1 : MS s1 μ n) (g : Gd μ n c) (ok : tOk1 μ n s u k) (f : TmF s1 τ) (ro : RfT τ μ n o) (to : tOk μ n o) : ∃ τ', F_X12_trades_92 K17 K27 τ (zI D) (zI s) (zI u) (zI k) = K27 τ' (zI D) (zI s) (zI ((u + 1 : Nat) : Int)) ∧ TmF s1 τ' ∧ RfT τ' μ n (tup μ n o s u k) := by
  have h4 := g.1.2.1
  have h := MS_tm f m1
  obtain ⟨h1, h2, h3, h5, h6⟩ := ok
  have ns := (g.2.2.1 s h1).2.1
  have nu := (g.2.2.1 u h2).2.1
  have tb := tv_bd g ⟨h1, h2, h3, h5, h6⟩
  have pS := m_profit h g.2.1 h4 h1 ns.1 ns.2
  have pS1 : F_X12_profitAt τ (zI s) (zI (μ (7 * s + 1)) + 1) = some (zI (pr μ s (μ (7 * s + 1) + 1))) := by
    rw [zl1, zI_add]; exact m_profit h g.2.1 h4 h1 (by omega) (by omega)
  have pU := m_profit h g.2.1 h4 h2 nu.1 nu.2
  have pU1 : F_X12_profitAt τ (zI u) (zI (μ (7 * u + 1)) - zI k) = some (zI (pr μ u (μ (7 * u + 1) - k))) := by
    rw [zI_sub]; exact m_profit h g.2.1 h4 h2 (by omega) (by omega)
  unfold F_X12_trades_92
  rw [m_of1 h (show u < 4 by omega), Option.bind_some, if_pos (zleT (by omega)), m_allP h g, Option.bind_some, m_of1 h (show s < 4 by omega), Option.bind_some, pS, Option.bind_some, Option.bind_some, pS1, Option.bind_some, Option.bind_some, pU, Option.bind_some, Option.bind_some, pU1, Option.bind_some, sw, zI_sub, zI_add, zI_sub, zI_add, show allP μ n - pr μ s (μ (7 * s + 1)) + pr μ s (μ (7 * s + 1) + 1) - pr μ u (μ (7 * u + 1)) + pr μ u (μ (7 * u + 1) - k) = tv μ n s u k from rfl, zI_s1 u]
  have new : tup μ n o s u k = some (s, u, k) → ∃ τ', F_X12_trades_186 K17 K27 τ (zI D) (zI s) (zI u) (zI k) (zI (tv μ n s u k)) = K27 τ' (zI D) (zI s) (zI ((u + 1 : Nat) : Int)) ∧ TmF s1 τ' ∧ RfT τ' μ n (tup μ n o s u k) := by
    intro e
    unfold F_X12_trades_186
    rw [sw, sw, sw, sw, zI_s1, e]
    refine ⟨_, rfl, TmF_si (TmF_si (TmF_si (TmF_si f (by omega)) (by omega)) (by omega)) (by omega), ?_, ?_, ?_, ?_⟩
    · rw [si_rd, if_neg (by omega), si_rd, if_neg (by omega), si_rd, if_neg (by omega), si_rd, if_pos ⟨rfl, rfl⟩]
    · rw [si_rd, if_neg (by omega), si_rd, if_neg (by omega), si_rd, if_pos ⟨rfl, rfl⟩]
    · rw [si_rd, if_neg (by omega), si_rd, if_pos ⟨rfl, rfl⟩]
    · rw [si_rd, if_pos ⟨rfl, rfl⟩]
  cases o with
  | none =>
    rw [if_pos (show τ.1 0 42 = -1 from ro)]
    exact new rfl
  | some x =>
    have xb := tv_bd g (to x rfl)
    have x1 := (to x rfl).1
    rw [ro.2.1, if_neg (show ¬ zI (x.1 : Int) = -1 from by rw [zlm1, zI_eq (by omega) (by omega) (by omega) (by omega)]; omega), ro.1]
    by_cases q : tv μ n s u k ≤ tv μ n x.1 x.2.1 x.2.2
    · rw [if_neg (zltF (by omega))]
      refine ⟨τ, rfl, f, ?_⟩
      unfold tup
      dsimp only
      rw [if_pos q]
      exact ro
    · rw [if_pos (zltT (by omega))]
      exact new (by unfold tup; dsimp only; rw [if_neg q])
theorem m_tr57 {s1 τ : Sto} {n c s u : Nat} {μ : Nat → Int} {D : Int} {o : Option (Nat × Nat × Nat)} (K17 : Sto → Int32 → Int32 → Option (Int32 × Sto)) (K27 : Sto → Int32 → Int32 → Int32 → Option (Int32 × Sto)) (m1 : MS s1 μ n) (g : Gd μ n c) (bD : -100000 ≤ D ∧ D ≤ 3000000) (hs : s < n) (hu : u < n) (su : s ≠ u) (n19 : μ (7 * s + 1) ≤ 19) (f : TmF s1 τ) (ro : RfT τ μ n o) (to : tOk μ n o) : ∀ (d k j : Nat), (k : Int) + d = μ (7 * u + 1) + 1 → d < j → ∃ τ', F_X12_trades_57 K17 K27 j τ (zI D) (zI s) (zI u) (zI k) = K27 τ' (zI D) (zI s) (zI ((u + 1 : Nat) : Int)) ∧ TmF s1 τ' ∧ RfT τ' μ n (tnx μ n o s u (tkF μ D s u d k)) := by
  have h4 := g.1.2.1
  have h := MS_tm f m1
  have nu := (g.2.2.1 u hu).2.1
  have ws := we_bd g hs
  have wu := we_bd g hu
  intro d
  induction d with
  | zero =>
    intro k j k1 k2
    obtain ⟨j, rfl⟩ : ∃ i, j = i + 1 := ⟨j - 1, by omega⟩
    refine ⟨τ, ?_, f, ro⟩
    rw [F_X12_trades_57, m_of1 h (show u < 4 by omega), Option.bind_some, if_pos (zltT (by omega))]
    unfold F_X12_trades_92
    rw [m_of1 h (show u < 4 by omega), Option.bind_some, if_neg (zleF (by omega)), zI_s1 u]
  | succ d ih =>
    intro k j k1 k2
    obtain ⟨j, rfl⟩ : ∃ i, j = i + 1 := ⟨j - 1, by omega⟩
    have kw := mul_bd (a := 20) (b := 200) (show 0 ≤ (k : Int) by omega) (show (k : Int) ≤ 20 by omega) wu.1 wu.2
    rw [F_X12_trades_57, m_of1 h (show u < 4 by omega), Option.bind_some, if_neg (zltF (by omega)), m_weight h g hs, Option.bind_some, m_weight h g hu, Option.bind_some, zI_mul, zI_sub, tkF]
    by_cases q : we μ s - (k : Int) * we μ u ≤ D
    · rw [if_pos (zleT (by omega)), if_pos q]
      exact m_tr92 K17 K27 m1 g ⟨hs, hu, su, n19, by omega⟩ f ro to
    · rw [if_neg (zleF (by omega)), if_neg q, zI_s1 k]
      exact ih (k + 1) j (by omega) (by omega)
theorem tst_ok {μ : Nat → Int} {n c : Nat} {D : Int} {o : Option (Nat × Nat × Nat)} {s u : Nat} (g : Gd μ n c) (hs : s < n) (hu : u < n) (to : tOk μ n o) : tOk μ n (tst μ n D o s u) := by
  unfold tst
  by_cases q : s = u ∨ μ (7 * s + 1) = 20
  · rw [if_pos q]; exact to
  · rw [if_neg q]
    have ns := (g.2.2.1 s hs).2.1
    have nu := (g.2.2.1 u hu).2.1
    generalize e : tkF μ D s u (μ (7 * u + 1) + 1).toNat 0 = x
    cases x with
    | none => exact to
    | some k =>
      have := tkF_le e
      exact tup_ok to ⟨hs, hu, by omega, by omega, by omega⟩
theorem tI_ok {μ : Nat → Int} {n c : Nat} {D : Int} {s : Nat} (g : Gd μ n c) (hs : s < n) : ∀ (d u : Nat) (o : Option (Nat × Nat × Nat)), u + d ≤ n → tOk μ n o → tOk μ n (tI μ n D s d u o)
  | 0, _, _, _, h => h
  | d + 1, u, o, hd, h => tI_ok g hs d (u + 1) _ (by omega) (tst_ok g hs (by omega) h)
theorem m_tr27 {s1 : Sto} {n c s : Nat} {μ : Nat → Int} {D : Int} (K17 : Sto → Int32 → Int32 → Option (Int32 × Sto)) (m1 : MS s1 μ n) (g : Gd μ n c) (bD : -100000 ≤ D ∧ D ≤ 3000000) (hs : s < n) : ∀ (d u j : Nat) (τ : Sto) (o : Option (Nat × Nat × Nat)), u + d = n → d < j → TmF s1 τ → RfT τ μ n o → tOk μ n o → ∃ τ', F_X12_trades_27 K17 j τ (zI D) (zI s) (zI u) = K17 τ' (zI D) (zI ((s + 1 : Nat) : Int)) ∧ TmF s1 τ' ∧ RfT τ' μ n (tI μ n D s d u o) := by
  have h4 := g.1.2.1
  have ns := (g.2.2.1 s hs).2.1
  intro d
  induction d with
  | zero =>
    intro u j τ o k1 k2 f ro to
    obtain ⟨j, rfl⟩ : ∃ i, j = i + 1 := ⟨j - 1, by omega⟩
    refine ⟨τ, ?_, f, ro⟩
    rw [F_X12_trades_27, (MS_tm f m1).2, if_pos (zleT (by omega)), zI_s1 s]
  | succ d ih =>
    intro u j τ o k1 k2 f ro to
    obtain ⟨j, rfl⟩ : ∃ i, j = i + 1 := ⟨j - 1, by omega⟩
    have hu : u < n := by omega
    have h := MS_tm f m1
    have nu := (g.2.2.1 u hu).2.1
    rw [F_X12_trades_27, h.2, if_neg (zleF (by omega)), zI_s1 u, tI]
    have tok := tst_ok (D := D) g hs hu to
    by_cases e : u = s
    · rw [if_pos (by rw [e])]
      have et : tst μ n D o s u = o := if_pos (Or.inl e.symm)
      rw [et]
      exact ih (u + 1) j τ o (by omega) (by omega) f ro to
    · rw [if_neg (by rw [zI_eq (by omega) (by omega) (by omega) (by omega)]; omega), m_of1 h (show s < 4 by omega), Option.bind_some]
      by_cases e2 : μ (7 * s + 1) = 20
      · rw [if_pos (by rw [e2]; decide)]
        have et : tst μ n D o s u = o := if_pos (Or.inr e2)
        rw [et]
        exact ih (u + 1) j τ o (by omega) (by omega) f ro to
      · rw [if_neg (by rw [zl20, zI_eq (by omega) (by omega) (by omega) (by omega)]; exact e2)]
        obtain ⟨τ', a1, a2, a3⟩ := m_tr57 K17 (F_X12_trades_27 K17 j) m1 g bD hs hu (fun h => e h.symm) (by omega) f ro to (μ (7 * u + 1) + 1).toNat 0 FU (by omega) (FU_lt (by omega))
        have a1' : F_X12_trades_57 K17 (F_X12_trades_27 K17 j) FU τ (zI D) (zI s) (zI u) 0 = _ := a1
        have et : tst μ n D o s u = tnx μ n o s u (tkF μ D s u (μ (7 * u + 1) + 1).toNat 0) := if_neg (by omega)
        rw [a1']
        rw [← et] at a3
        exact ih (u + 1) j τ' _ (by omega) (by omega) a2 a3 tok
theorem m_trades {s1 : Sto} {n c : Nat} {μ : Nat → Int} (m1 : MS s1 μ n) (g : Gd μ n c) : ∃ τ, F_X12_trades s1 = some (if tO μ n (al μ n - sp μ n) n 0 none = none then 0 else 1, τ) ∧ AgM s1 τ ∧ RfT τ μ n (tO μ n (al μ n - sp μ n) n 0 none) ∧ tOk μ n (tO μ n (al μ n - sp μ n) n 0 none) := by
  have h4 := g.1.2.1
  have A := al_bd0 g
  have S := sp_bd g
  have loop : ∀ (d s j : Nat) (τ : Sto) (o : Option (Nat × Nat × Nat)), s + d = n → d < j → TmF s1 τ → RfT τ μ n o → tOk μ n o → ∃ υ, F_X12_trades_17 j τ (zI (al μ n - sp μ n)) (zI s) = some (if tO μ n (al μ n - sp μ n) d s o = none then 0 else 1, υ) ∧ AgM s1 υ ∧ RfT υ μ n (tO μ n (al μ n - sp μ n) d s o) ∧ tOk μ n (tO μ n (al μ n - sp μ n) d s o) := by
    intro d
    induction d with
    | zero =>
      intro s j τ o k1 k2 f ro to
      obtain ⟨j, rfl⟩ : ∃ i, j = i + 1 := ⟨j - 1, by omega⟩
      refine ⟨τ, ?_, ⟨fun a k q => f.1 a k (by omega), f.2⟩, ro, to⟩
      rw [F_X12_trades_17, (MS_tm f m1).2, if_pos (zleT (by omega)), tO]
      cases o with
      | none => rw [if_pos (show τ.1 0 42 = -1 from ro)]; rfl
      | some x =>
        have x1 := (to x rfl).1
        rw [ro.2.1, if_neg (show ¬ zI (x.1 : Int) = -1 from by rw [zlm1, zI_eq (by omega) (by omega) (by omega) (by omega)]; omega)]; rfl
    | succ d ih =>
      intro s j τ o k1 k2 f ro to
      obtain ⟨j, rfl⟩ : ∃ i, j = i + 1 := ⟨j - 1, by omega⟩
      obtain ⟨τ', a1, a2, a3⟩ := m_tr27 (s := s) (F_X12_trades_17 j) m1 g (D := al μ n - sp μ n) (by omega) (by omega) n 0 FU τ o (by omega) (FU_lt (by omega)) f ro to
      have a1' : F_X12_trades_27 (F_X12_trades_17 j) FU τ (zI (al μ n - sp μ n)) (zI s) 0 = _ := a1
      rw [F_X12_trades_17, (MS_tm f m1).2, if_neg (zleF (by omega)), a1', tO]
      exact ih (s + 1) j τ' _ (by omega) (by omega) a2 a3 (tI_ok g (by omega) n 0 o (by omega) to)
  unfold F_X12_trades
  have f0 : TmF s1 (si s1 0 42 (-1)) := TmF_si ⟨fun _ _ _ => rfl, rfl⟩ (by omega)
  have m2 := MS_tm f0 m1
  rw [sw, m_allowed m2 g, Option.bind_some, m_spent m2 g, Option.bind_some, zI_sub]
  exact loop n 0 FU _ none (by omega) (FU_lt (by omega)) f0 (show (si s1 0 42 (-1)).1 0 42 = -1 by rw [si_rd, if_pos ⟨rfl, rfl⟩]) (fun x hx => by cases hx)
