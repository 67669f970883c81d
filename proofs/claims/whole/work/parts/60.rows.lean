/-! HOW MANY ROWS KEEP THE CAP -/
theorem sz_tail {f : Nat → Int} {m : Nat} : ∀ {n : Nat}, m ≤ n → (∀ i, m ≤ i → i < n → f i = 0) → sz n f = sz m f
  | 0, h, _ => by rw [show m = 0 by omega]
  | n + 1, h, k => by
    by_cases q : m = n + 1
    · rw [q]
    · rw [sz, sz_tail (n := n) (by omega) (fun i h1 h2 => k i h1 (by omega)), k n (by omega) (by omega)]; omega
/-- all prices at their top -/
def tps (μ : Nat → Int) : Nat → Nat → Int
  | 0, _ => 0
  | d + 1, s => we μ s * 20 + tps μ d (s + 1)
def p21 : Nat → Int
  | 0 => 1
  | d + 1 => 21 * p21 d
theorem tps_nn {μ : Nat → Int} {n c : Nat} (g : Gd μ n c) : ∀ d s, s + d ≤ n → 0 ≤ tps μ d s
  | 0, _, _ => Int.le_refl _
  | d + 1, s, h => by
    have := tps_nn g d (s + 1) (by omega)
    have := we_bd g (s := s) (by omega)
    rw [tps]; omega
theorem cnt_sat {μ : Nat → Int} {n c : Nat} (g : Gd μ n c) : ∀ d s left, s + d ≤ n → tps μ d s ≤ left → cnt μ d s left = p21 d
  | 0, _, _, _, _ => rfl
  | d + 1, s, left, h, k => by
    have w := we_bd g (s := s) (by omega)
    have t := tps_nn g d (s + 1) (by omega)
    rw [tps] at k
    have e : ∀ p : Nat, p < 21 → (if (p : Int) * we μ s ≤ left then cnt μ d (s + 1) (left - p * we μ s) else 0) = p21 d := by
      intro p hp
      have m := Int.mul_le_mul_of_nonneg_right (a := (p : Int)) (b := 20) (c := we μ s) (by omega) w.1
      rw [if_pos (by omega), cnt_sat g d (s + 1) _ (by omega) (by omega)]
    rw [cnt, sz_cg e, sz_c, p21]; rfl
theorem tps_sz (μ : Nat → Int) : ∀ d s, tps μ d s + sz s (fun s => we μ s * 20) = sz (s + d) (fun s => we μ s * 20)
  | 0, s => by rw [tps]; simp
  | d + 1, s => by
    have := tps_sz μ d (s + 1)
    rw [tps, show s + (d + 1) = s + 1 + d by omega, ← this, sz]; omega
theorem cnt_min {μ : Nat → Int} {n c : Nat} (g : Gd μ n c) : cnt μ n 0 (min (al μ n) (sz n (fun s => we μ s * 20))) = cnt μ n 0 (al μ n) := by
  have t := tps_sz μ n 0
  rw [sz, Nat.zero_add, Int.add_zero] at t
  by_cases q : al μ n ≤ sz n (fun s => we μ s * 20)
  · rw [show min (al μ n) (sz n (fun s => we μ s * 20)) = al μ n by omega]
  · rw [show min (al μ n) (sz n (fun s => we μ s * 20)) = sz n (fun s => we μ s * 20) by omega, cnt_sat g n 0 _ (by omega) (by omega), cnt_sat g n 0 _ (by omega) (by omega)]
theorem s_count {σ : Sto} {n L c : Nat} {μ : Nat → Int} {un : Nat → Nat → Int} {lo hi : Nat → Int} (g : Gd μ n c) (D : SrD σ n L (lds μ un) lo hi) (hL : 1 ≤ L) : ∀ (dd s : Nat) (left : Int), s < n → n ≤ s + dd → 0 ≤ left → left ≤ 100000 → F_X8_countFrom dd σ (zI s) (zI left) = some (zI (cnt μ (n - s) s left)) := by
  have h4 := g.1.2.1
  intro dd
  induction dd with
  | zero => intro s left h1 h2; omega
  | succ dd ih =>
    intro s left hs hd hl hl2
    have w := we_bd g hs
    have d0 := D.2.2.1 0 (by omega) s hs
    rw [Nat.mul_zero, Nat.zero_add] at d0
    have d1 : σ.1 64 s = zI (we μ s) := d0
    obtain ⟨d, hd'⟩ : ∃ d, n - s = d + 1 := ⟨n - s - 1, by omega⟩
    have lp : ∀ (p : Nat), 0 ≤ (p : Int) * we μ s := fun p => Int.mul_nonneg (by omega) w.1
    have body : F_X8_countFrom (dd + 1) σ (zI s) (zI left) = F_X8_countFrom_22 (F_X8_countFrom dd) σ (zI s) (zI left) (zI (we μ s)) (if (s : Int) < n - 1 then 0 else 1) := by
      rw [F_X8_countFrom, D.1]
      simp (disch := omega) only [zl1, zI_sub, zI_ib, zI_ix, Int.toNat_natCast]
      rw [if_pos (by omega), d1]
      by_cases q : (s : Int) < n - 1
      · rw [if_pos (zltT (by omega)), if_pos q]
      · rw [if_neg (zltF (by omega)), if_neg q]
    rw [body, hd', cnt]
    unfold F_X8_countFrom_22
    by_cases e0 : we μ s = 0
    · rw [e0, if_pos (show zI 0 = 0 by decide)]
      rw [sz_cg (g := fun _ => cnt μ d (s + 1) left) (fun p hp => by rw [Int.mul_zero, if_pos hl, Int.sub_zero]), sz_c]
      by_cases q : (s : Int) < n - 1
      · rw [if_pos q, if_pos rfl, zI_s1, ih (s + 1) left (by omega) (by omega) hl hl2, Option.bind_some, zl21, zI_mul, show n - (s + 1) = d by omega]; rfl
      · rw [if_neg q, if_neg (by decide), show d = 0 by omega]; rfl
    · rw [if_neg (show ¬ zI (we μ s) = 0 from by rw [zl0, zI_eq (by omega) (by omega) (by omega) (by omega)]; exact e0), if_pos (show ¬ zI (we μ s) = 0 from by rw [zl0, zI_eq (by omega) (by omega) (by omega) (by omega)]; exact e0)]
      have q0 : 0 ≤ left / we μ s := Int.ediv_nonneg hl w.1
      have q1 : left / we μ s ≤ left := Int.ediv_le_self _ hl
      rw [zI_div (by omega) (by omega) (by omega) (by omega), Int.tdiv_eq_ediv_of_nonneg hl, zl20]
      obtain ⟨far, f1, f2, f3⟩ : ∃ far : Nat, far ≤ 20 ∧ (if zI (left / we μ s) < zI 20 then zI (left / we μ s) else zI 20) = zI (far : Int) ∧ ∀ p : Nat, p ≤ 20 → ((p : Int) * we μ s ≤ left ↔ p ≤ far) := by
        have iff : ∀ p : Nat, ((p : Int) * we μ s ≤ left ↔ (p : Int) ≤ left / we μ s) := fun p => (Int.le_ediv_iff_mul_le (by omega)).symm
        by_cases q : left / we μ s < 20
        · refine ⟨(left / we μ s).toNat, by omega, ?_, fun p hp => ?_⟩
          · rw [if_pos (zltT (by omega)), show ((left / we μ s).toNat : Int) = left / we μ s by omega]
          · rw [iff]; omega
        · refine ⟨20, by omega, ?_, fun p hp => ?_⟩
          · rw [if_neg (zltF (by omega))]; rfl
          · rw [iff]; omega
      have cut : sz 21 (fun p => if (p : Int) * we μ s ≤ left then cnt μ d (s + 1) (left - p * we μ s) else 0) = sz (far + 1) (fun p => cnt μ d (s + 1) (left - p * we μ s)) := by
        rw [sz_tail (m := far + 1) (by omega) (fun i h1 h2 => if_neg (fun h => by have := (f3 i (by omega)).1 h; omega))]
        exact sz_cg (fun p hp => if_pos ((f3 p (by omega)).2 (by omega)))
      rw [f2, sw, cut]
      by_cases q : (s : Int) < n - 1
      · rw [if_pos q, if_pos rfl]
        have loop : ∀ (m p k : Nat), p + m = far + 1 → m < k → F_X8_countFrom_76 (F_X8_countFrom dd) k σ (zI s) (zI left) (zI (we μ s)) (zI far) (zI (sz p (fun p => cnt μ d (s + 1) (left - p * we μ s)))) (zI p) = some (zI (sz (far + 1) (fun p => cnt μ d (s + 1) (left - p * we μ s)))) := by
          intro m
          induction m with
          | zero =>
            intro p k h1 h2
            obtain ⟨k, rfl⟩ : ∃ j, k = j + 1 := ⟨k - 1, by omega⟩
            rw [F_X8_countFrom_76, if_pos (zltT (by omega)), show p = far + 1 by omega]
          | succ m ih2 =>
            intro p k h1 h2
            obtain ⟨k, rfl⟩ : ∃ j, k = j + 1 := ⟨k - 1, by omega⟩
            have fp := (f3 p (by omega)).2 (by omega)
            have := lp p
            rw [F_X8_countFrom_76, if_neg (zltF (by omega)), zI_mul, zI_sub, zI_s1 s, ih (s + 1) _ (by omega) (by omega) (by omega) (by omega), Option.bind_some, zI_add, zI_s1, show n - (s + 1) = d by omega]
            have := ih2 (p + 1) k (by omega) (by omega)
            rw [sz] at this
            exact this
        exact loop (far + 1) 0 FU (by omega) (FU_lt (by omega))
      · rw [if_neg q, if_neg (by decide), show d = 0 by omega, zI_s1, show sz (far + 1) (fun p => cnt μ 0 (s + 1) (left - (p : Int) * we μ s)) = sz (far + 1) (fun _ => 1) from sz_cg (fun p _ => rfl), sz_c, Int.mul_one]
def CrF (σ τ : Sto) : Prop := (∀ a k, ¬ (a = 0 ∧ k = 37) → τ.1 a k = σ.1 a k) ∧ τ.2 = σ.2
theorem m_count {μ : Nat → Int} {n c : Nat} (g : Gd μ n c) : ∀ (dd s : Nat) (σ : Sto) (left x : Int), s ≤ n → n < s + dd → 0 ≤ left → left ≤ 3000000 → σ.1 0 22 = zI n → (∀ s, s < n → σ.1 14 s = zI (we μ s)) → σ.1 0 37 = zI x → ∃ τ, F_X12_countsRows dd σ (zI s) (zI left) = some τ ∧ CrF σ τ ∧ τ.1 0 37 = zI (x + cnt μ (n - s) s left) := by
  have h4 := g.1.2.1
  intro dd
  induction dd with
  | zero => intro s σ left x h1 h2; omega
  | succ dd ih =>
    intro s σ left x hs hd hl hl2 e22 e14 e37
    rw [F_X12_countsRows, e22]
    by_cases q : s = n
    · subst q
      rw [if_pos rfl, sw, e37, zl1, zI_add, Nat.sub_self]
      exact ⟨_, rfl, ⟨fun a k h => by rw [si_rd, if_neg h], rfl⟩, by rw [si_rd, if_pos ⟨rfl, rfl⟩]; rfl⟩
    · rw [if_neg (by rw [zI_eq (by omega) (by omega) (by omega) (by omega)]; omega)]
      have hs : s < n := by omega
      have w := we_bd g hs
      obtain ⟨d, hd'⟩ : ∃ d, n - s = d + 1 := ⟨n - s - 1, by omega⟩
      rw [hd', cnt]
      have loop : ∀ (m p k : Nat) (τ : Sto), p + m = 21 → m < k → CrF σ τ → τ.1 0 37 = zI (x + sz p (fun p => if (p : Int) * we μ s ≤ left then cnt μ d (s + 1) (left - p * we μ s) else 0)) → ∃ υ, F_X12_countsRows_21 (F_X12_countsRows dd) k τ (zI s) (zI left) (zI p) = some υ ∧ CrF σ υ ∧ υ.1 0 37 = zI (x + sz 21 (fun p => if (p : Int) * we μ s ≤ left then cnt μ d (s + 1) (left - p * we μ s) else 0)) := by
        intro m
        induction m with
        | zero =>
          intro p k τ h1 h2 f e
          obtain ⟨k, rfl⟩ : ∃ j, k = j + 1 := ⟨k - 1, by omega⟩
          refine ⟨τ, ?_, f, ?_⟩
          · rw [F_X12_countsRows_21, zl20, if_pos (zltT (by omega))]
          · rw [e, show p = 21 by omega]
        | succ m ih2 =>
          intro p k τ h1 h2 f e
          obtain ⟨k, rfl⟩ : ∃ j, k = j + 1 := ⟨k - 1, by omega⟩
          have pw := mul_bd (a := 20) (b := 200) (show 0 ≤ (p : Int) by omega) (show (p : Int) ≤ 20 by omega) w.1 w.2
          rw [F_X12_countsRows_21, zl20, if_neg (zltF (by omega))]
          simp (disch := omega) only [zI_ib, zI_ix, Int.toNat_natCast]
          rw [if_pos (by omega), f.1 14 s (by omega), e14 s hs, zI_mul]
          by_cases q : left < p * we μ s
          · rw [if_pos (zltT (by omega))]
            refine ⟨τ, rfl, f, ?_⟩
            rw [e, sz_tail (n := 21) (m := p) (by omega) (fun i h1 h2 => if_neg (fun h => ?_))]
            have := Int.mul_le_mul_of_nonneg_right (a := (p : Int)) (b := i) (c := we μ s) (by omega) w.1
            omega
          · rw [if_neg (zltF (by omega)), zI_sub, zI_s1 s]
            obtain ⟨υ, u1, u2, u3⟩ := ih (s + 1) τ (left - p * we μ s) _ (by omega) (by omega) (by omega) (by omega) (by rw [f.1 0 22 (by omega)]; exact e22) (fun t ht => by rw [f.1 14 t (by omega)]; exact e14 t ht) e
            rw [u1, Option.bind_some, zI_s1]
            refine ih2 (p + 1) k υ (by omega) (by omega) ⟨fun a j h => (u2.1 a j h).trans (f.1 a j h), u2.2.trans f.2⟩ ?_
            rw [u3, sz, if_pos (by omega), show n - (s + 1) = d by omega, Int.add_assoc]
      exact loop 21 0 FU σ (by omega) (FU_lt (by omega)) ⟨fun _ _ _ => rfl, rfl⟩ (by rw [e37, sz, Int.add_zero])
theorem sp_rows : Sp_rows Inv := by
  intro σC σM h
  have h := Inv_0 h
  unfold F_X11_rows F_X12_rows
  rw [sw]
  generalize si σM 0 0 0 = s1 at h ⊢
  rcases h.2.2.2 with ⟨u1, u2⟩ | ⟨n, nb, t, hd, ac, μ, un, l, ca⟩
  · refine q_fin h (w := 1) (by decide) (v := -1) ?_ ?_
    · rw [if_pos u1]; rfl
    · rw [if_pos u2]; rfl
  · have l' := l
    obtain ⟨⟨l1, l2, l3, l4⟩, ⟨g, g8, g9⟩, hm, ⟨hy, hyn⟩, ht, hb, -⟩ := l'
    have T := tC_t l4
    have h4 := g.1.2.1
    have n1 := g.1.1
    have A := al_bd0 g
    -- the reference
    obtain ⟨x1, be, e1, e2, e3, -⟩ := m_lays (ig := 0) hm g (Or.inl ⟨rfl, rfl⟩)
    have m2 : MS (si x1 0 37 0) μ n := by
      have := MS_lw e2 hm
      unfold MS at *
      simp (disch := omega) only [si_rd, if_neg]
      exact this
    obtain ⟨τM, c1, c2, c3⟩ := m_count g 6 0 (si x1 0 37 0) (al μ n) 0 (by omega) (by omega) A.1 A.2 m2.2 (fun s hs => by rw [si_rd, if_neg (by omega)]; exact e3 s hs) (by rw [si_rd, if_pos ⟨rfl, rfl⟩]; rfl)
    rw [Nat.sub_zero, Int.zero_add] at c3
    have agM : AgM s1 τM := by
      refine ⟨fun a k q => ?_, c2.2.trans e2.2⟩
      rw [c2.1 a k (by omega), si_rd, if_neg (by omega), e2.1 a (by omega)]
    have eM : (if s1.1 0 25 = 0 then ((F_X12_refused s1 1).bind fun x5 => some (x5.1, x5.2)) else ((F_X12_laysWorth s1 0).bind fun x1 => (sw (si x1 0 37 0) fun s2 => ((F_X12_allowed s2).bind fun x2 => ((F_X12_countsRows 6 s2 0 x2).bind fun x3 => ((F_X12_tells x3 (x3.1 0 37)).bind fun x4 => some (x4.1, x4.2))))))) = some (zI (cnt μ n 0 (al μ n)), si (si τM 0 1 0) 0 2 (-1)) := by
      rw [if_neg (by rw [l2]; decide), e1, Option.bind_some, sw, m_allowed m2 g, Option.bind_some]
      have c1' : F_X12_countsRows 6 (si x1 0 37 0) 0 (zI (al μ n)) = some τM := c1
      rw [c1', Option.bind_some, c3]
      rfl
    -- the class
    have cls : ∃ τC, F_X2_countRows σC t 3 = some (zI (cnt μ n 0 (al μ n)), τC) ∧ AgC σC τC ∧ Ca τC n nb μ un := by
      unfold F_X2_countRows
      have new : ∃ τC, ((F_X8_begin σC t 3).bind fun x1 => ((F_X8_count x1).bind fun x2 => (sw (si x1 75 6 x2) fun s1 => some (s1.1 75 6, s1)))) = some (zI (cnt μ n 0 (al μ n)), τC) ∧ AgC σC τC ∧ Ca τC n nb μ un := by
        obtain ⟨x1, b1, b2, b3, b4⟩ := s_begin (fun _ _ => 0) yC_3 (by omega) T (by omega) (YR_Q hy) ht g
        have rb := rmc_bd (nb := 0) (un := fun _ _ => 0) g (fun b hb => by omega) 0 (by omega)
        have r0 := b4 0 (by omega)
        have ec : F_X8_count x1 = some (zI (cnt μ n 0 (al μ n))) := by
          unfold F_X8_count
          rw [show ix 0 = 0 from by decide, r0]
          have := s_count g b3 (Nat.le_refl 1) 6 0 (rmc μ n (fun _ _ => 0) 0) (by omega) (by omega) rb.1 (by omega)
          have this' : F_X8_countFrom 6 x1 0 (zI (rmc μ n (fun _ _ => 0) 0)) = _ := this
          rw [this', Option.bind_some, Nat.sub_zero, ← cnt_min g]
          rfl
        refine ⟨si x1 75 6 (zI (cnt μ n 0 (al μ n))), ?_, ⟨fun a k q => ?_, b2.2⟩, ?_⟩
        · rw [b1, Option.bind_some, ec, Option.bind_some, sw, si_rd, if_pos ⟨rfl, rfl⟩]
        · rw [si_rd, if_neg (by omega), b2.1 a (by omega)]
        · obtain ⟨⟨d1, d2, d3, d4, d5⟩, cw, cg, cn⟩ := ca
          refine ⟨⟨?_, ?_, ?_, ?_, Or.inr ?_⟩, ?_, ?_, ?_⟩
          · unfold RwK at *; simp (disch := omega) only [si_rd, if_neg, b2.1]; exact d1
          · unfold RwK at *; simp (disch := omega) only [si_rd, if_neg, b2.1]; exact d2
          · unfold RwK at *; simp (disch := omega) only [si_rd, if_neg, b2.1]; exact d3
          · unfold RwK at *; simp (disch := omega) only [si_rd, if_neg, b2.1]; exact d4
          · rw [si_rd, if_pos ⟨rfl, rfl⟩]
          · unfold CW YQ at *; simp (disch := omega) only [si_rd, if_neg, b2.1]; exact cw
          · unfold CG at *; simp (disch := omega) only [si_rd, if_neg, b2.1]; exact cg
          · unfold CN at *; simp (disch := omega) only [si_rd, if_neg, b2.1]; exact cn
      by_cases q : σC.1 75 6 = -1
      · rw [if_pos q]; exact new
      · rw [if_neg q]
        rcases ca.1.2.2.2.2 with k | k
        · exact absurd k q
        · exact ⟨σC, by rw [k], AgC_rfl σC, ca⟩
    obtain ⟨τC, a1, a2, a3⟩ := cls
    refine f_fin h l a2 agM a3 (w := 0) (by decide) (v := zI (cnt μ n 0 (al μ n))) ?_ eM
    rw [if_neg (by rw [l1]; decide), l3, Option.bind_some, a1, Option.bind_some]
    rfl
