/-! A NAME'S LETTERS -/
theorem Inv_x {σC σM : Sto} (x : Int32) (h : Inv σC σM) : Inv σC (si σM 0 0 x) := by
  have hM : AgM σM (si σM 0 0 x) := AgM_si _ 0 0 _ (by omega)
  obtain ⟨g, q, z, l⟩ := h
  refine ⟨Gl_ag (AgC_rfl _) hM g, ?_, Mz_ag hM z, ?_⟩
  · unfold Tq at *
    simp only [si_rd]
    simp
    exact q
  · rcases l with l | ⟨n, nb, t, h, ac, μ, un, l, c⟩
    · exact Or.inl (Ul_ag (AgC_l (AgC_rfl _)) (AgM_l hM) l)
    · exact Or.inr ⟨n, nb, t, h, ac, μ, un, Ld_ag (AgC_l (AgC_rfl _)) (AgM_l hM) l, c⟩
theorem nmV_lo : ∀ {l : List Int}, 1 ≤ l.length → (∀ x, x ∈ l → 1 ≤ x ∧ x ≤ 26) → ((32 ^ (l.length - 1) : Nat) : Int) ≤ nmV l
  | [], h, _ => by simp at h
  | [y], _, h => by
    have b := h y List.mem_cons_self
    unfold nmV nmV
    simp
    omega
  | y :: w :: l, _, h => by
    have a := nmV_lo (l := w :: l) (by simp) (fun x hx => h x (List.mem_cons_of_mem _ hx))
    have b := h y List.mem_cons_self
    rw [nmV]
    rw [show (y :: w :: l).length - 1 = ((w :: l).length - 1) + 1 from by simp, Nat.pow_succ]
    omega
theorem w_amt : ∀ i, i < 7 → (((Int32.toInt64 (5 * zI ((i : Nat) : Int))).toUInt64 &&& Int64.toUInt64 63).toBitVec % 64) = BitVec.ofNat 64 (5 * i) := by decide +kernel
theorem w_shr {N i : Nat} (hN : N < 34359738368) (hi : i < 7) : (((Int64.ofNat N).toUInt64 >>> ((Int32.toInt64 (5 * zI (i : Int))).toUInt64 &&& Int64.toUInt64 63)).toInt64) = Int64.ofNat (N / 32 ^ i) := by
  apply Int64.toBitVec_inj.mp
  show ((Int64.ofNat N).toUInt64 >>> ((Int32.toInt64 (5 * zI (i : Int))).toUInt64 &&& Int64.toUInt64 63)).toBitVec = (Int64.ofNat (N / 32 ^ i)).toBitVec
  rw [UInt64.toBitVec_shiftRight, w_amt i hi]
  apply BitVec.eq_of_toNat_eq
  have hd : N / 32 ^ i ≤ N := Nat.div_le_self _ _
  rw [BitVec.ushiftRight_eq', BitVec.toNat_ushiftRight, show (Int64.ofNat N).toUInt64.toBitVec = BitVec.ofNat 64 N from rfl, BitVec.toNat_ofNat, BitVec.toNat_ofNat, Int64.toBitVec_ofNat', BitVec.toNat_ofNat, Nat.mod_eq_of_lt (show N < 2 ^ 64 by omega), Nat.mod_eq_of_lt (show 5 * i < 2 ^ 64 by omega), Nat.mod_eq_of_lt (show N / 32 ^ i < 2 ^ 64 by omega), Nat.shiftRight_eq_div_pow, Nat.pow_mul]
theorem w_and31 {v : Nat} (hv : v < 34359738368) : (Int64.ofNat v &&& 31) = Int64.ofNat (v % 32) := by
  apply Int64.toBitVec_inj.mp
  apply BitVec.eq_of_toNat_eq
  have e : (31 : Int64).toBitVec.toNat = 2 ^ 5 - 1 := by decide
  have h : v % 32 < 32 := Nat.mod_lt _ (by omega)
  rw [Int64.toBitVec_and, BitVec.toNat_and, e, Int64.toBitVec_ofNat', Int64.toBitVec_ofNat', BitVec.toNat_ofNat, BitVec.toNat_ofNat, Nat.mod_eq_of_lt (show v < 2 ^ 64 by omega), Nat.mod_eq_of_lt (show v % 32 < 2 ^ 64 by omega), Nat.and_two_pow_sub_one_eq_mod]
theorem w_i32 : ∀ r, r < 32 → (Int64.ofNat r).toInt32 = zI ((r : Nat) : Int) := by decide +kernel
theorem w_lg {v : Nat} (hv : v < 34359738368) : lg_cmp (Int64.ofNat v) 0 = if v = 0 then 0 else 1 := by
  unfold lg_cmp
  by_cases q : v = 0
  · rw [if_pos q, q]
    decide
  · have h : (0 : Int64) < Int64.ofNat v := by
      rw [Int64.lt_iff_toInt_lt, Int64.toInt_ofNat_of_lt (by omega), show (0 : Int64).toInt = 0 from by decide]
      omega
    rw [if_neg q, if_pos h]
theorem w_div {v : Nat} (hv : v < 34359738368) : Int64.ofNat v / 32 = Int64.ofNat (v / 32) := by
  rw [Int64.ofNat_div (by omega) (by omega)]
  rfl
theorem w_rem {v : Nat} (hv : v < 34359738368) : Int64.ofNat v - Int64.ofNat v / 32 * 32 = Int64.ofNat (v % 32) := by
  rw [w_div hv, ← Int64.ofInt_eq_ofNat, ← Int64.ofInt_eq_ofNat, ← Int64.ofInt_eq_ofNat, show (32 : Int64) = Int64.ofInt 32 from by decide, ← Int64.ofInt_mul, ← Int64.ofInt_sub]
  congr 1
  omega
theorem c_len {σ : Sto} {N L : Nat} (hN : N < 34359738368) (hL : L ≤ 7) (lo : ∀ i, i < L → 0 < N / 32 ^ i) (hi : ∀ i, L ≤ i → i < 7 → N / 32 ^ i = 0) : F_X9_lengthOf σ (Int64.ofNat N) = some (zI L) := by
  have key : ∀ (e i j : Nat), i + e = 7 → e < j → F_X9_lengthOf_4 j σ (Int64.ofNat N) (zI ((min i L : Nat) : Int)) (zI i) = some (zI L) := by
    intro e
    induction e with
    | zero =>
      intro i j k1 k2
      obtain ⟨j, rfl⟩ : ∃ x, j = x + 1 := ⟨j - 1, by omega⟩
      rw [F_X9_lengthOf_4, if_pos (show (7 : Int32) ≤ zI i from by rw [zl7]; exact zleT (by omega)), show min i L = L by omega]
    | succ e ih =>
      intro i j k1 k2
      obtain ⟨j, rfl⟩ : ∃ x, j = x + 1 := ⟨j - 1, by omega⟩
      have hd : N / 32 ^ i ≤ N := Nat.div_le_self _ _
      rw [F_X9_lengthOf_4, if_neg (show ¬ (7 : Int32) ≤ zI i from by rw [zl7]; exact zleF (by omega)), w_shr hN (by omega), w_lg (by omega), zI_s1, zI_s1]
      have r := ih (i + 1) j (by omega) (by omega)
      by_cases q : i < L
      · rw [if_neg (show ¬ N / 32 ^ i = 0 from by have := lo i q; omega), if_neg (show ¬ (1 : Int32) = 0 by decide), show min i L + 1 = min (i + 1) L by omega]
        exact r
      · rw [if_pos (hi i (by omega) (by omega)), if_pos (show (0 : Int32) = 0 from rfl), show min i L = min (i + 1) L by omega]
        exact r
  have r := key 7 0 FU (by omega) (FU_lt (by omega))
  rw [show min 0 L = 0 by omega] at r
  exact r
theorem m_l30 {σ : Sto} {N L : Nat} {w : Int64} {i2 : Int32} (hN : N < 34359738368) (hL : L ≤ 7) (lo : ∀ i, i < L → 0 < N / 32 ^ i) (hz : N / 32 ^ L = 0) : F_X12_letter_30 FU σ i2 w 0 (Int64.ofNat N) = ((F_X12_in σ i2 0 (zI L - 1)).bind fun x1 => if x1 = 0 then ((sw (si σ 0 0 1) fun s1 => some (0, s1))) else (F_X12_letter_76 FU σ i2 w (zI L - 1))) := by
  have key : ∀ (e k j : Nat), k + e = L → e < j → F_X12_letter_30 j σ i2 w (zI k) (Int64.ofNat (N / 32 ^ k)) = ((F_X12_in σ i2 0 (zI L - 1)).bind fun x1 => if x1 = 0 then ((sw (si σ 0 0 1) fun s1 => some (0, s1))) else (F_X12_letter_76 FU σ i2 w (zI L - 1))) := by
    intro e
    induction e with
    | zero =>
      intro k j k1 k2
      obtain ⟨j, rfl⟩ : ∃ x, j = x + 1 := ⟨j - 1, by omega⟩
      have ek : k = L := k1
      rw [F_X12_letter_30, ek, hz, w_lg (by omega), if_pos rfl, if_pos (show (0 : Int32) ≤ 0 from Int32.le_refl _)]
    | succ e ih =>
      intro k j k1 k2
      obtain ⟨j, rfl⟩ : ∃ x, j = x + 1 := ⟨j - 1, by omega⟩
      have hd : N / 32 ^ k ≤ N := Nat.div_le_self _ _
      have p := lo k (by omega)
      rw [F_X12_letter_30, w_lg (by omega), if_neg (show ¬ N / 32 ^ k = 0 from by omega), if_neg (show ¬ (1 : Int32) ≤ 0 by decide), w_div (by omega), zI_s1, Nat.div_div_eq_div_mul, ← Nat.pow_succ]
      exact ih (k + 1) j (by omega) (by omega)
  have r := key L 0 FU (by omega) (FU_lt (by omega))
  rw [Nat.pow_zero, Nat.div_one] at r
  exact r
theorem m_l76 {σ : Sto} {N L i : Nat} (hN : N < 34359738368) (hL : L ≤ 7) (hi : i < L) : F_X12_letter_76 FU σ (zI i) (Int64.ofNat N) (zI L - 1) = some (zI ((N / 32 ^ (L - 1 - i) % 32 : Nat) : Int) - 1, σ) := by
  have key : ∀ (e k j : Nat), k + e = L - 1 - i → e < j → F_X12_letter_76 j σ (zI i) (Int64.ofNat (N / 32 ^ k)) (zI ((L - 1 - k : Nat) : Int)) = some (zI ((N / 32 ^ (L - 1 - i) % 32 : Nat) : Int) - 1, σ) := by
    intro e
    induction e with
    | zero =>
      intro k j k1 k2
      obtain ⟨j, rfl⟩ : ∃ x, j = x + 1 := ⟨j - 1, by omega⟩
      have ek : k = L - 1 - i := k1
      have hd : N / 32 ^ (L - 1 - i) ≤ N := Nat.div_le_self _ _
      rw [F_X12_letter_76, if_pos (zleT (by omega)), ek, w_rem (by omega), w_i32 _ (Nat.mod_lt _ (by omega))]
    | succ e ih =>
      intro k j k1 k2
      obtain ⟨j, rfl⟩ : ∃ x, j = x + 1 := ⟨j - 1, by omega⟩
      have hd : N / 32 ^ k ≤ N := Nat.div_le_self _ _
      rw [F_X12_letter_76, if_neg (zleF (by omega)), w_div (by omega), Nat.div_div_eq_div_mul, ← Nat.pow_succ, show zI ((L - 1 - k : Nat) : Int) + (-1) = zI ((L - 1 - (k + 1) : Nat) : Int) from by rw [zlm1, zI_add]; congr 1; omega]
      exact ih (k + 1) j (by omega) (by omega)
  have r := key (L - 1 - i) 0 FU (by omega) (FU_lt (by omega))
  rw [Nat.pow_zero, Nat.div_one, Nat.sub_zero] at r
  rw [show zI (L : Int) - 1 = zI ((L - 1 : Nat) : Int) from by rw [zl1, zI_sub]; congr 1; omega]
  exact r
theorem c_let {σ : Sto} {N L i : Nat} (hN : N < 34359738368) (hL : L ≤ 7) (hi : i < L) (len : F_X9_lengthOf σ (Int64.ofNat N) = some (zI L)) : F_X9_letterOf σ (Int64.ofNat N) (zI i) = some (zI ((N / 32 ^ (L - 1 - i) % 32 : Nat) : Int) - 1) := by
  have hd : N / 32 ^ (L - 1 - i) ≤ N := Nat.div_le_self _ _
  unfold F_X9_letterOf
  rw [len, Option.bind_some, show zI (L : Int) - 1 - zI (i : Int) = zI ((L - 1 - i : Nat) : Int) from by rw [zl1, zI_sub, zI_sub]; congr 1; omega, w_shr hN (by omega), w_and31 (by omega), w_i32 _ (Nat.mod_lt _ (by omega))]
theorem sp_letter : Sp_letter Inv := by
  intro σC σM a b h
  have h := Inv_0 h
  have hs : (si σM 0 0 0).1 0 0 = 0 := by rw [si_rd, if_pos ⟨rfl, rfl⟩]
  obtain ⟨z, hz1, hz2, rfl⟩ := zI_of a
  obtain ⟨y, hy1, hy2, rfl⟩ := zI_of b
  unfold F_X11_letter F_X12_letter F_X12_thrown
  rw [sw]
  generalize si σM 0 0 0 = s1 at h hs ⊢
  have no : ∀ r : Option (Option Int32), r = some none → F_X12_letter_30 FU s1 (zI y) 0 0 0 = some (0, si s1 0 0 1) → ∃ (r1 : Option Int32) (x : Int32 × Sto) (w : Int32), r = some r1 ∧ F_X12_letter_30 FU s1 (zI y) 0 0 0 = some x ∧ some (x.2.1 0 0) = some w ∧ ((r1 = none ∧ w = 1) ∨ (r1 = some x.1 ∧ w = 0)) ∧ Inv σC x.2 := by
    intro r h1 h2
    exact ⟨none, (0, si s1 0 0 1), 1, h1, h2, by rw [si_rd, if_pos ⟨rfl, rfl⟩], Or.inl ⟨rfl, rfl⟩, Inv_x 1 h⟩
  have n30 : F_X12_letter_30 FU s1 (zI y) 0 0 0 = some (0, si s1 0 0 1) := by
    have e := m_l30 (σ := s1) (N := 0) (L := 0) (w := 0) (i2 := zI y) (by omega) (by omega) (fun i hi => by omega) (by decide)
    have e1 : zI ((0 : Nat) : Int) - 1 = zI (-1) := by decide
    have mi : F_X12_in s1 (zI y) 0 (zI (-1)) = some (if 0 ≤ y ∧ y ≤ -1 then zI 1 else zI 0) := m_in s1 ⟨hy1, hy2⟩ (b := 0) (c := -1) (by omega) (by omega)
    rw [e1] at e
    rw [mi, if_neg (by omega), Option.bind_some, if_pos (show zI 0 = 0 by decide), sw] at e
    exact e
  rcases h.2.2.2 with ⟨u1, u2⟩ | ⟨n, nb, t, hd, ac, μ, un, l, ca⟩
  · rw [c_noS0 u1, Option.bind_some, if_neg (show ¬ zI 1 = 0 by decide), m_isS0 u2, Option.bind_some, if_pos (show zI 0 = 0 by decide)]
    exact no _ rfl n30
  · obtain ⟨⟨l1, l2, l3, l4⟩, ⟨g, g8, g9⟩, hm, ⟨hy, hyn⟩, ht, hb, nm, -⟩ := l
    have TC := tC_t l4
    have h4 := g.1.2.1
    rw [c_noS l1 l3 TC.1 ht.1.1 h4 ⟨hz1, hz2⟩, Option.bind_some, m_isS hm l2 h4 ⟨hz1, hz2⟩, Option.bind_some]
    by_cases q : 0 ≤ z ∧ z < n
    · rw [if_pos q, if_pos q, if_pos (show zI 0 = 0 by decide), if_neg (show ¬ zI 1 = 0 by decide)]
      obtain ⟨s, rfl⟩ : ∃ s : Nat, z = s := ⟨z.toNat, by omega⟩
      obtain ⟨e1, ll, k1, k2, k3, k4⟩ := nm s (by omega)
      have bd := nmV_bd k3
      have lo := nmV_lo k1 k3
      have p7 := Nat.pow_le_pow_right (show 0 < 32 by omega) k2
      obtain ⟨N, hNe⟩ : ∃ N : Nat, nmV ll = N := ⟨(nmV ll).toNat, by omega⟩
      rw [hNe, Int64.ofInt_eq_ofNat] at k4
      rw [hNe] at bd lo
      have hN : N < 34359738368 := by
        have : (32 : Nat) ^ 7 = 34359738368 := by decide
        omega
      have hlo : ∀ i, i < ll.length → 0 < N / 32 ^ i := fun i hi => by
        have p := Nat.pow_le_pow_right (show 0 < 32 by omega) (show i ≤ ll.length - 1 by omega)
        exact Nat.div_pos (by omega) (Nat.pow_pos (by omega))
      have hhi : ∀ i, ll.length ≤ i → N / 32 ^ i = 0 := fun i hi => by
        have p := Nat.pow_le_pow_right (show 0 < 32 by omega) hi
        exact Nat.div_eq_of_lt (by omega)
      have len := c_len (σ := σC) hN k2 hlo (fun i i1 _ => hhi i i1)
      have m30 := m_l30 (σ := s1) (w := Int64.ofNat N) (i2 := zI y) hN k2 hlo (hhi _ (Nat.le_refl _))
      have mi : F_X12_in s1 (zI y) 0 (zI (ll.length : Int) - 1) = some (if 0 ≤ y ∧ y ≤ (ll.length : Int) - 1 then zI 1 else zI 0) := by
        rw [zl1, zI_sub]
        exact m_in s1 ⟨hy1, hy2⟩ (b := 0) (by omega) (by omega)
      rw [mi, Option.bind_some] at m30
      simp (disch := omega) only [zI_ib, zI_ix, Int.toNat_natCast]
      rw [if_pos (show (0 : Int) ≤ (s : Int) ∧ (s : Int) < ((4 : Nat) : Int) by omega), k4, m30, l3, Option.bind_some, if_pos TC.1, if_pos (show (0 : Int) ≤ (s : Int) ∧ (s : Int) < ((8 : Nat) : Int) by omega), e1, k4, len, Option.bind_some]
      by_cases qy : 0 ≤ y ∧ y ≤ (ll.length : Int) - 1
      · obtain ⟨i, rfl⟩ : ∃ i : Nat, y = i := ⟨y.toNat, by omega⟩
        rw [if_neg (zlt0F (by omega)), if_pos (zltT (by omega)), c_let hN k2 (by omega) len, Option.bind_some, if_pos qy, if_neg (show ¬ zI 1 = 0 by decide), m_l76 hN k2 (by omega)]
        exact ⟨_, _, 0, rfl, rfl, by rw [hs], Or.inr ⟨rfl, rfl⟩, h⟩
      · rw [if_neg qy, if_pos (show zI 0 = 0 by decide), sw]
        refine ⟨none, (0, si s1 0 0 1), 1, ?_, rfl, by rw [si_rd, if_pos ⟨rfl, rfl⟩], Or.inl ⟨rfl, rfl⟩, Inv_x 1 h⟩
        by_cases q0 : y < 0
        · rw [if_pos (show zI y < 0 from by rw [zl0]; exact zltT (by omega))]
        · rw [if_neg (zlt0F (by omega)), if_neg (zltF (by omega))]
    · rw [if_neg q, if_neg q, if_neg (show ¬ zI 1 = 0 by decide), if_pos (show zI 0 = 0 by decide)]
      exact no _ rfl n30
