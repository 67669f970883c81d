/-! THE CLASS'S SEARCH: THE TOLL -/
theorem zleT {a b : Int} (h : -2147483648 ≤ a ∧ a ≤ b ∧ b < 2147483648) : zI a ≤ zI b := by rw [zI_le (by omega) (by omega) (by omega) (by omega)]; omega
theorem zleF {a b : Int} (h : -2147483648 ≤ b ∧ b < a ∧ a < 2147483648) : ¬ zI a ≤ zI b := by rw [zI_le (by omega) (by omega) (by omega) (by omega)]; omega
theorem zltT {a b : Int} (h : -2147483648 ≤ a ∧ a < b ∧ b < 2147483648) : zI a < zI b := by rw [zI_lt (by omega) (by omega) (by omega) (by omega)]; omega
theorem zltF {a b : Int} (h : -2147483648 ≤ b ∧ b ≤ a ∧ a < 2147483648) : ¬ zI a < zI b := by rw [zI_lt (by omega) (by omega) (by omega) (by omega)]; omega
/-- what chooseAt leaves -/
def SrC (σ τ : Sto) (n : Nat) (ld : Nat → Nat → Int) (lo : Nat → Int) (w : Nat → Nat → Int) (st : Nat → Nat) (rs : Nat → Nat → Int) : Prop := SrF σ τ ∧ τ.1 65 = σ.1 65 ∧ τ.1 73 = σ.1 73 ∧ (∃ T re, SrT τ n T re ∧ SrQ n ld lo w st rs T re) ∧ ∀ s, s < n → ∃ i : Nat, i < st s ∧ τ.1 72 s = zI i
theorem s_choose {σ : Sto} {n L : Nat} {ld : Nat → Nat → Int} {lo hi : Nat → Int} {w : Nat → Nat → Int} {st : Nat → Nat} {rs : Nat → Nat → Int} {un : Nat → Nat → Nat} (b : SrB n L ld lo hi w) (P : StpR n lo hi w st rs un) (D : SrD σ n L ld lo hi) (S : SrS σ n lo hi w st rs un) {T : Int} (hT : 0 ≤ T ∧ T ≤ 1024) : ∃ (x : Int32) (τ : Sto), F_X8_chooseAt σ (zI T) = some (x, τ) ∧ SrC σ τ n ld lo w st rs := by
  have h4 := b.1
  have hL := b.2.1
  have vb : ∀ s, s < n → ∀ i, i < st s → -6000000 ≤ w s (lo s + rs s i).toNat * 256 - T * ld 0 s * rs s i ∧ w s (lo s + rs s i).toNat * 256 - T * ld 0 s * rs s i ≤ 6000000 := by
    intro s hs i hi
    have a := w_bd b P hs hi
    have bl := b.2.2.1 0 (by omega) s hs
    have bh := b.2.2.2.1 s hs
    have c := (P s hs).2.1 i hi
    have m1 := mul_bd hT.1 hT.2 bl.1 bl.2
    have m2 := mul_bd (a := 1024 * 200) (b := 20) m1.1 m1.2 c.1 (by omega)
    omega
  have inner : ∀ (K : Sto → Int32 → Int32 → Option (Int32 × Sto)) (τ : Sto) (acc : Int32) (s : Nat) (ra : Int), s < n → SrF σ τ → τ.1 74 (s + 1) = zI ra → ∀ (m i k ch : Nat), i + m = st s → m < k → 1 ≤ i → ch < i → (∀ j, j < i → w s (lo s + rs s j).toNat * 256 - T * ld 0 s * rs s j ≤ w s (lo s + rs s ch).toNat * 256 - T * ld 0 s * rs s ch) →
      ∃ (ch' : Nat) (v : Int32), ch' < st s ∧ (∀ j, j < st s → w s (lo s + rs s j).toNat * 256 - T * ld 0 s * rs s j ≤ w s (lo s + rs s ch').toNat * 256 - T * ld 0 s * rs s ch') ∧ F_X8_chooseAt_76 K k τ acc (zI s) (zI (s * 21)) (zI (T * ld 0 s)) (zI ch) (zI (w s (lo s + rs s ch).toNat * 256 - T * ld 0 s * rs s ch)) (zI i) = K (si (si τ 72 s (zI ch')) 74 s (zI (ra + (w s (lo s + rs s ch').toNat * 256 - T * ld 0 s * rs s ch')))) v (zI ((s : Int) - 1)) := by
    intro K τ acc s ra hs f hra m
    have Sf := SrS_fx f S
    have Df := SrD_fx f D
    have p21 := (P s hs).1
    induction m with
    | zero =>
      intro i k ch h1 h2 h3 h5 h6
      obtain ⟨k, rfl⟩ : ∃ j, k = j + 1 := ⟨k - 1, by omega⟩
      have e : i = st s := h1
      subst e
      rw [F_X8_chooseAt_76]
      simp (disch := omega) only [zl1, zI_neg, zI_ib, zI_ix, Int.toNat_natCast, zI_add]
      rw [(Sf s hs).1, if_pos (by omega), if_pos (Int32.le_refl _), sw, if_pos (by omega), if_pos (by omega), sw, if_pos (by omega), if_pos (by omega), sw, show ((s : Int) + 1).toNat = s + 1 by omega, si_rd τ, if_neg (by omega), hra, zI_add]
      exact ⟨ch, _, h5, h6, rfl⟩
    | succ m ih =>
      intro i k ch h1 h2 h3 h5 h6
      obtain ⟨k, rfl⟩ : ∃ j, k = j + 1 := ⟨k - 1, by omega⟩
      have Si := (Sf s hs).2.1 i (by omega)
      have vi := vb s hs i (by omega)
      have vc := vb s hs ch (by omega)
      rw [F_X8_chooseAt_76]
      simp (disch := omega) only [zl1, zI_neg, zI_ib, zI_ix, Int.toNat_natCast, zI_add]
      rw [(Sf s hs).1, if_pos (by omega), if_neg (zleF (by omega)), if_pos (by omega), sw, show ((s : Int) * 21 + i).toNat = 21 * s + i by omega, Si.1, Si.2, zI_shl8, zI_mul, zI_sub, show (i : Int) + 1 = ((i + 1 : Nat) : Int) by omega]
      by_cases q : w s (lo s + rs s i).toNat * 256 - T * ld 0 s * rs s i ≤ w s (lo s + rs s ch).toNat * 256 - T * ld 0 s * rs s ch
      · rw [if_pos (zleT (by omega))]
        refine ih (i + 1) k ch (by omega) (by omega) (by omega) (by omega) (fun j hj => ?_)
        by_cases e : j = i
        · rw [e]; exact q
        · exact h6 j (by omega)
      · rw [if_neg (zleF (by omega))]
        refine ih (i + 1) k i (by omega) (by omega) (by omega) (by omega) (fun j hj => ?_)
        by_cases e : j = i
        · rw [e]; exact Int.le_refl _
        · have := h6 j (by omega); omega
  have outer : ∀ (d k : Nat) (τ : Sto) (acc : Int32) (re : Nat → Int), d ≤ n → d < k → SrF σ τ → τ.1 65 = σ.1 65 → τ.1 73 = σ.1 73 → τ.1 63 13 = zI T → (∀ t, d ≤ t → t ≤ n → τ.1 74 t = zI (re t)) → re n = 0 → (∀ t : Nat, d ≤ t → t ≤ n → -6000000 * ((n : Int) - t) ≤ re t ∧ re t ≤ 6000000 * ((n : Int) - t)) → (∀ t, d ≤ t → t < n → ∀ i, i < st t → 256 * w t (lo t + rs t i).toNat - T * (ld 0 t * rs t i) ≤ re t - re (t + 1)) → (∀ s, d ≤ s → s < n → ∃ i : Nat, i < st s ∧ τ.1 72 s = zI i) →
      ∃ (x : Int32) (υ : Sto), F_X8_chooseAt_24 k τ acc (zI ((d : Int) - 1)) = some (x, υ) ∧ SrC σ υ n ld lo w st rs := by
    intro d
    induction d with
    | zero =>
      intro k τ acc re h1 h2 f e65 e73 e13 e74 en bd df pk
      obtain ⟨k, rfl⟩ : ∃ j, k = j + 1 := ⟨k - 1, by omega⟩
      refine ⟨acc, τ, ?_, f, e65, e73, ⟨T, re, ⟨e13, fun t ht => e74 t (Nat.zero_le _) ht⟩, hT, en, fun t ht => ?_, fun t ht => df t (Nat.zero_le _) ht⟩, fun s hs => pk s (Nat.zero_le _) hs⟩
      · rw [F_X8_chooseAt_24, if_pos (by decide)]
      · have := bd t (Nat.zero_le _) ht
        omega
    | succ d ih =>
      intro k τ acc re h1 h2 f e65 e73 e13 e74 en bd df pk
      obtain ⟨k, rfl⟩ : ∃ j, k = j + 1 := ⟨k - 1, by omega⟩
      have Sf := SrS_fx f S
      have Df := SrD_fx f D
      have hd : d < n := by omega
      have p21 := (P d hd).1
      have d0 := Df.2.2.1 0 (by omega) d hd
      rw [Nat.mul_zero, Nat.zero_add] at d0
      have Si := (Sf d hd).2.1 0 (by omega)
      rw [Nat.add_zero] at Si
      obtain ⟨ch, v, c1, c2, c3⟩ := inner (F_X8_chooseAt_24 k) τ acc d (re (d + 1)) hd f (e74 (d + 1) (by omega) (by omega)) (st d - 1) 1 FU 0 (by omega) (FU_lt (by omega)) (by omega) (by omega) (fun j hj => by rw [show j = 0 by omega]; exact Int.le_refl _)
      have vc := vb d hd ch c1
      have b1 := bd (d + 1) (by omega) (by omega)
      rw [F_X8_chooseAt_24, show ((d + 1 : Nat) : Int) - 1 = (d : Int) by omega]
      simp (disch := omega) only [zl0, zl21, zI_lt, zI_mul, zI_ib, zI_ix, Int.toNat_natCast]
      rw [if_neg (by omega), if_pos (by omega), sw, if_pos (by omega), sw, show ((d : Int) * 21).toNat = 21 * d by omega, Si.1, Si.2, e13, d0, zI_shl8, zI_mul, zI_mul, zI_sub, zl1]
      rw [show ((0 : Nat) : Int) = 0 from rfl, show ((1 : Nat) : Int) = 1 from rfl] at c3
      rw [c3]
      refine ih k _ v (rpd re d (re (d + 1) + (w d (lo d + rs d ch).toNat * 256 - T * ld 0 d * rs d ch))) (by omega) (by omega) (SrF_tr f (SrF_tr (SrF_si _ 72 _ _ (by omega)) (SrF_si _ 74 _ _ (by omega)))) ?_ ?_ ?_ (fun t t1 t2 => ?_) ?_ (fun t t1 t2 => ?_) (fun t t1 t2 i hi => ?_) (fun t t1 t2 => ?_)
      · rw [← e65]; funext j; rw [si_rd, if_neg (by omega), si_rd, if_neg (by omega)]
      · rw [← e73]; funext j; rw [si_rd, if_neg (by omega), si_rd, if_neg (by omega)]
      · rw [si_rd, if_neg (by omega), si_rd, if_neg (by omega)]; exact e13
      · by_cases e : t = d
        · rw [e, rpd_s, si_rd, if_pos ⟨rfl, rfl⟩]
        · rw [rpd_o _ _ e, si_rd, if_neg (by omega), si_rd, if_neg (by omega)]; exact e74 t (by omega) t2
      · rw [rpd_o _ _ (by omega)]; exact en
      · by_cases e : t = d
        · subst e
          rw [rpd_s]
          have e2 : (n : Int) - t = ((n : Int) - ((t + 1 : Nat) : Int)) + 1 := by omega
          rw [e2, Int.mul_add, Int.mul_add]
          omega
        · rw [rpd_o _ _ e]; exact bd t (by omega) t2
      · by_cases e : t = d
        · subst e
          rw [rpd_s, rpd_o _ _ (by omega)]
          have := c2 i hi
          rw [← Int.mul_assoc]
          omega
        · rw [rpd_o _ _ e, rpd_o _ _ (by omega)]; exact df t (by omega) t2 i hi
      · by_cases e : t = d
        · subst e
          exact ⟨ch, c1, by rw [si_rd, if_neg (by omega), si_rd, if_pos ⟨rfl, rfl⟩]⟩
        · obtain ⟨i, i1, i2⟩ := pk t (by omega) t2
          exact ⟨i, i1, by rw [si_rd, if_neg (by omega), si_rd, if_neg (by omega)]; exact i2⟩
  unfold F_X8_chooseAt
  have e0 : (si σ 63 13 (zI T)).1 63 0 = zI n := by rw [si_rd, if_neg (by omega)]; exact D.1
  rw [sw, e0]
  simp (disch := omega) only [zI_ib, zI_ix, Int.toNat_natCast]
  rw [if_pos (by omega), sw, si_rd, if_neg (by omega), e0, zl1, zI_sub]
  refine outer n FU _ _ (fun _ => 0) (Nat.le_refl _) (FU_lt (by omega)) (SrF_tr (SrF_si _ 63 13 _ (by omega)) (SrF_si _ 74 _ _ (by omega))) ?_ ?_ ?_ (fun t t1 t2 => ?_) rfl (fun t t1 t2 => ?_) (fun t t1 t2 => by omega) (fun t t1 t2 => by omega)
  · funext j; rw [si_rd, if_neg (by omega), si_rd, if_neg (by omega)]
  · funext j; rw [si_rd, if_neg (by omega), si_rd, if_neg (by omega)]
  · rw [si_rd, if_neg (by omega), si_rd, if_pos ⟨rfl, rfl⟩]
  · rw [show t = n by omega, si_rd, if_pos ⟨rfl, rfl⟩]; rfl
  · rw [show (n : Int) - t = 0 by omega]; decide
theorem SrC_tr {σ τ υ : Sto} {n : Nat} {ld : Nat → Nat → Int} {lo : Nat → Int} {w : Nat → Nat → Int} {st : Nat → Nat} {rs : Nat → Nat → Int} (h : SrC σ τ n ld lo w st rs) (k : SrC τ υ n ld lo w st rs) : SrC σ υ n ld lo w st rs :=
  ⟨SrF_tr h.1 k.1, k.2.1.trans h.2.1, k.2.2.1.trans h.2.2.1, k.2.2.2⟩
theorem s_toll {σ : Sto} {n L : Nat} {ld : Nat → Nat → Int} {lo hi : Nat → Int} {w : Nat → Nat → Int} {st : Nat → Nat} {rs : Nat → Nat → Int} {un : Nat → Nat → Nat} (b : SrB n L ld lo hi w) (P : StpR n lo hi w st rs un) (D : SrD σ n L ld lo hi) (S : SrS σ n lo hi w st rs un) : ∃ (τ : Sto), F_X8_setToll σ = some τ ∧ SrC σ τ n ld lo w st rs := by
  have loop : ∀ (m i k : Nat) (τ : Sto) (x y : Int), i + m = 10 → m < k → SrC σ τ n ld lo w st rs → (0 ≤ x ∧ x ≤ 1024) → (0 ≤ y ∧ y ≤ 1024) → ∃ υ, F_X8_setToll_23 k τ (zI x) (zI y) (zI i) = some υ ∧ SrC σ υ n ld lo w st rs := by
    intro m
    induction m with
    | zero =>
      intro i k τ x y h1 h2 c hx hy
      obtain ⟨k, rfl⟩ : ∃ j, k = j + 1 := ⟨k - 1, by omega⟩
      obtain ⟨v, υ, e1, e2⟩ := s_choose b P (SrD_fx c.1 D) (SrS_fx c.1 S) hy
      refine ⟨υ, ?_, SrC_tr c e2⟩
      rw [F_X8_setToll_23, zl10, if_pos (zleT (by omega)), e1, Option.bind_some]
    | succ m ih =>
      intro i k τ x y h1 h2 c hx hy
      obtain ⟨k, rfl⟩ : ∃ j, k = j + 1 := ⟨k - 1, by omega⟩
      have ed : (zI x + zI y) / 2 = zI ((x + y) / 2) := by
        rw [zI_add, zl2, zI_div (by omega) (by omega) (by omega) (by omega), Int.tdiv_eq_ediv_of_nonneg (by omega)]
      have hm : 0 ≤ (x + y) / 2 ∧ (x + y) / 2 ≤ 1024 := by omega
      obtain ⟨v, υ, e1, e2⟩ := s_choose b P (SrD_fx c.1 D) (SrS_fx c.1 S) hm
      rw [F_X8_setToll_23, zl10, if_neg (zleF (by omega)), ed, e1, Option.bind_some, zl1, zI_add, show (i : Int) + 1 = ((i + 1 : Nat) : Int) by omega]
      dsimp only
      split
      · exact ih (i + 1) k υ x _ (by omega) (by omega) (SrC_tr c e2) hx hm
      · exact ih (i + 1) k υ _ y (by omega) (by omega) (SrC_tr c e2) hm hy
  obtain ⟨v, υ, e1, e2⟩ := s_choose b P D S (T := 0) (by omega)
  unfold F_X8_setToll
  rw [zl0, e1, Option.bind_some]
  dsimp only
  split
  · exact loop 10 0 FU υ 0 1024 (by omega) (FU_lt (by omega)) e2 (by omega) (by omega)
  · exact ⟨υ, rfl, e2⟩
