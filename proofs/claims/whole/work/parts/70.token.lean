/-! READING: TOKENS -/
theorem sj_rd (σ : Sto) (a k b j : Nat) (x : Int64) : (sj σ a k x).2.1 b j = if b = a ∧ j = k then x else σ.2.1 b j := by
  unfold sj u2
  by_cases h : b = a
  · subst h
    by_cases h2 : j = k <;> simp [h2]
  · simp [h]
theorem sr_rd (σ : Sto) (a k b j : Nat) (x : Option Nat) : (sr σ a k x).2.2 b j = if b = a ∧ j = k then x else σ.2.2 b j := by
  unfold sr u2
  by_cases h : b = a
  · subst h
    by_cases h2 : j = k <;> simp [h2]
  · simp [h]
theorem sj_1 (σ : Sto) (a k : Nat) (x : Int64) : (sj σ a k x).1 = σ.1 := rfl
theorem sj_22 (σ : Sto) (a k : Nat) (x : Int64) : (sj σ a k x).2.2 = σ.2.2 := rfl
theorem si_2 (σ : Sto) (a k : Nat) (x : Int32) : (si σ a k x).2 = σ.2 := rfl
theorem sr_1 (σ : Sto) (a k : Nat) (x : Option Nat) : (sr σ a k x).1 = σ.1 := rfl
theorem sr_21 (σ : Sto) (a k : Nat) (x : Option Nat) : (sr σ a k x).2.1 = σ.2.1 := rfl
/-- longs -/
theorem jI_to {v : Int} (h : -2147483648 ≤ v ∧ v < 2147483648) : Int32.toInt64 (zI v) = Int64.ofInt v := by
  apply Int64.toInt_inj.mp
  rw [Int32.toInt_toInt64, zI_to h.1 h.2, Int64.toInt_ofInt_of_le (by omega) (by omega)]
theorem w_shl {v x : Nat} (hv : v < 1073741824) (hx : x < 32) : (Int64.ofNat v <<< ((Int32.toInt64 5) &&& 63)) ||| Int64.ofNat x = Int64.ofNat (v * 32 + x) := by
  apply Int64.toBitVec_inj.mp
  apply BitVec.eq_of_toNat_eq
  rw [Int64.toBitVec_or, Int64.toBitVec_shiftLeft, show (((Int32.toInt64 5) &&& 63 : Int64).toBitVec.smod 64) = 5#64 from by decide]
  rw [BitVec.toNat_or, BitVec.shiftLeft_eq', show (5#64).toNat = 5 from rfl, BitVec.toNat_shiftLeft, Int64.toBitVec_ofNat', Int64.toBitVec_ofNat', Int64.toBitVec_ofNat', BitVec.toNat_ofNat, BitVec.toNat_ofNat, BitVec.toNat_ofNat, Nat.mod_eq_of_lt (show v < 2 ^ 64 by omega), Nat.mod_eq_of_lt (show x < 2 ^ 64 by omega), Nat.mod_eq_of_lt (show v * 32 + x < 2 ^ 64 by omega), Nat.shiftLeft_eq, Nat.mod_eq_of_lt (show v * 2 ^ 5 < 2 ^ 64 by omega), ← Nat.shiftLeft_eq, ← Nat.shiftLeft_add_eq_or_of_lt (show x < 2 ^ 5 by omega), Nat.shiftLeft_eq]
theorem nmV_bd : ∀ {l : List Int}, (∀ x, x ∈ l → 1 ≤ x ∧ x ≤ 26) → 0 ≤ nmV l ∧ nmV l + 1 ≤ ((32 ^ l.length : Nat) : Int)
  | [], _ => by unfold nmV; simp
  | y :: l, h => by
    have a := nmV_bd (l := l) (fun x hx => h x (List.mem_cons_of_mem _ hx))
    have b := h y List.mem_cons_self
    unfold nmV
    rw [List.length_cons, Nat.pow_succ]
    omega
theorem nmV_6 {l : List Int} (h : ∀ x, x ∈ l → 1 ≤ x ∧ x ≤ 26) (h6 : l.length ≤ 6) : 0 ≤ nmV l ∧ nmV l < 1073741824 := by
  have a := nmV_bd h
  have b := Nat.pow_le_pow_right (show 0 < 32 by omega) h6
  omega
theorem w_cls {v c : Int} (hv : 0 ≤ v ∧ v < 1073741824) (hc : 97 ≤ c ∧ c ≤ 122) : (Int64.ofInt v <<< ((Int32.toInt64 5) &&& 63)) ||| Int32.toInt64 (zI c - 97 + 1) = Int64.ofInt (v * 32 + (c - 96)) := by
  rw [show (97 : Int32) = zI 97 from by decide, zl1, zI_sub, zI_add, jI_to (by omega)]
  have e1 : v = ((v.toNat : Nat) : Int) := by omega
  have e2 : c - 97 + 1 = (((c - 96).toNat : Nat) : Int) := by omega
  have e3 : v * 32 + (c - 96) = ((v.toNat * 32 + (c - 96).toNat : Nat) : Int) := by omega
  rw [e3, e2]
  generalize v.toNat = a at *
  generalize (c - 96).toNat = b at *
  rw [e1, Int64.ofInt_eq_ofNat, Int64.ofInt_eq_ofNat, Int64.ofInt_eq_ofNat, w_shl (by omega) (by omega)]
theorem w_ref {v c : Int} (hc : 97 ≤ c ∧ c ≤ 122) : ((((Int64.ofInt v) * 32) + (Int32.toInt64 (zI c))) - 97) + 1 = Int64.ofInt (v * 32 + (c - 96)) := by
  rw [jI_to (by omega), show (32 : Int64) = Int64.ofInt 32 from by decide, show (97 : Int64) = Int64.ofInt 97 from by decide, show (1 : Int64) = Int64.ofInt 1 from by decide, ← Int64.ofInt_mul, ← Int64.ofInt_add, ← Int64.ofInt_sub, ← Int64.ofInt_add]
  congr 1
  omega
/-- where both are on the tape -/
def Ps (T : Nat → Int) (z : Nat) (σ τ : Sto) (p : Nat) : Prop := (σ.2.2 2 0 = some 1 ∧ z ≤ 500 ∧ p ≤ z) ∧ (σ.1 2 1 = zI z ∧ σ.1 2 2 = zI p) ∧ (τ.1 0 5 = zI z ∧ τ.1 0 6 = zI p ∧ τ.1 0 7 = 0) ∧ ∀ i, i < z → σ.1 1 i = zI (T i) ∧ τ.1 1 i = zI (T i) ∧ 0 ≤ T i ∧ T i ≤ 255
theorem Ps_fr {T : Nat → Int} {z p : Nat} {σ τ σ' τ' : Sto} (h : Ps T z σ τ p) (f1 : ∀ a k, ((a = 2 ∧ (k = 1 ∨ k = 2)) ∨ a = 1) → σ'.1 a k = σ.1 a k) (f2 : σ'.2.2 2 0 = σ.2.2 2 0) (g : ∀ a k, ((a = 0 ∧ 5 ≤ k ∧ k ≤ 7) ∨ a = 1) → τ'.1 a k = τ.1 a k) : Ps T z σ' τ' p := by
  obtain ⟨⟨a1, a2, a3⟩, ⟨b1, b2⟩, ⟨c1, c2, c3⟩, d⟩ := h
  refine ⟨⟨by rw [f2]; exact a1, a2, a3⟩, ⟨by rw [f1 2 1 (by omega)]; exact b1, by rw [f1 2 2 (by omega)]; exact b2⟩, ⟨by rw [g 0 5 (by omega)]; exact c1, by rw [g 0 6 (by omega)]; exact c2, by rw [g 0 7 (by omega)]; exact c3⟩, fun i hi => ?_⟩
  rw [f1 1 i (by omega), g 1 i (by omega)]
  exact d i hi
theorem Ps_nx {T : Nat → Int} {z p : Nat} {σ τ : Sto} (h : Ps T z σ τ p) (hp : p < z) : Ps T z (si σ 2 2 (zI ((p + 1 : Nat) : Int))) (si τ 0 6 (zI ((p + 1 : Nat) : Int))) (p + 1) := by
  obtain ⟨⟨a1, a2, a3⟩, ⟨b1, b2⟩, ⟨c1, c2, c3⟩, d⟩ := h
  refine ⟨⟨a1, a2, hp⟩, ⟨by rw [si_rd, if_neg (by omega)]; exact b1, by rw [si_rd, if_pos ⟨rfl, rfl⟩]⟩, ⟨by rw [si_rd, if_neg (by omega)]; exact c1, by rw [si_rd, if_pos ⟨rfl, rfl⟩], by rw [si_rd, if_neg (by omega)]; exact c3⟩, fun i hi => ?_⟩
  rw [si_rd, if_neg (by omega), si_rd, if_neg (by omega)]
  exact d i hi
/-- what a token's reading leaves -/
def RdC (σ σ' : Sto) : Prop := (∀ a k, ¬ (a = 2 ∧ 2 ≤ k ∧ k ≤ 5) → σ'.1 a k = σ.1 a k) ∧ (∀ a k, ¬ (a = 2 ∧ k = 6) → σ'.2.1 a k = σ.2.1 a k) ∧ σ'.2.2 = σ.2.2
def RdM (τ τ' : Sto) : Prop := (∀ a k, ¬ (a = 0 ∧ (k = 6 ∨ (9 ≤ k ∧ k ≤ 12))) → τ'.1 a k = τ.1 a k) ∧ (∀ a k, ¬ (a = 0 ∧ k = 13) → τ'.2.1 a k = τ.2.1 a k) ∧ τ'.2.2 = τ.2.2
theorem RdC_rfl (σ : Sto) : RdC σ σ := ⟨fun _ _ _ => rfl, fun _ _ _ => rfl, rfl⟩
theorem RdM_rfl (σ : Sto) : RdM σ σ := ⟨fun _ _ _ => rfl, fun _ _ _ => rfl, rfl⟩
theorem RdC_tr {σ τ υ : Sto} (h : RdC σ τ) (k : RdC τ υ) : RdC σ υ := ⟨fun a j q => (k.1 a j q).trans (h.1 a j q), fun a j q => (k.2.1 a j q).trans (h.2.1 a j q), k.2.2.trans h.2.2⟩
theorem RdM_tr {σ τ υ : Sto} (h : RdM σ τ) (k : RdM τ υ) : RdM σ υ := ⟨fun a j q => (k.1 a j q).trans (h.1 a j q), fun a j q => (k.2.1 a j q).trans (h.2.1 a j q), k.2.2.trans h.2.2⟩
theorem RdC_si (σ : Sto) {k : Nat} (x : Int32) (h : 2 ≤ k ∧ k ≤ 5) : RdC σ (si σ 2 k x) := ⟨fun a j q => by rw [si_rd, if_neg (by omega)], fun _ _ _ => rfl, rfl⟩
theorem RdM_si (σ : Sto) {k : Nat} (x : Int32) (h : k = 6 ∨ (9 ≤ k ∧ k ≤ 12)) : RdM σ (si σ 0 k x) := ⟨fun a j q => by rw [si_rd, if_neg (by omega)], fun _ _ _ => rfl, rfl⟩
theorem RdC_sj (σ : Sto) (x : Int64) : RdC σ (sj σ 2 6 x) := ⟨fun _ _ _ => rfl, fun a j q => by rw [sj_rd, if_neg q], rfl⟩
theorem RdM_sj (σ : Sto) (x : Int64) : RdM σ (sj σ 0 13 x) := ⟨fun _ _ _ => rfl, fun a j q => by rw [sj_rd, if_neg q], rfl⟩
def Lts (l : List Int) : Prop := 1 ≤ l.length ∧ l.length ≤ 7 ∧ ∀ x, x ∈ l → 1 ≤ x ∧ x ≤ 26
/-- the token that both have read -/
def TkR (σ τ : Sto) : Prop := σ.1 2 4 = τ.1 0 10 ∧ ((σ.1 2 3 = 0 ∧ τ.1 0 9 = 1) ∨ (σ.1 2 3 = 1 ∧ τ.1 0 9 = 2 ∧ ∃ l, Lts l ∧ σ.2.1 2 6 = Int64.ofInt (nmV l) ∧ τ.2.1 0 13 = Int64.ofInt (nmV l)) ∨ (σ.1 2 3 = 2 ∧ τ.1 0 9 = 3 ∧ ∃ v : Int, 0 ≤ v ∧ v ≤ 999 ∧ σ.1 2 5 = zI v ∧ τ.1 0 12 = zI v) ∨ (σ.1 2 3 = 3 ∧ τ.1 0 9 = 4 ∧ τ.1 0 11 = 59) ∨ (σ.1 2 3 = 4 ∧ τ.1 0 9 = 4 ∧ τ.1 0 11 = 44) ∨ (σ.1 2 3 = 5 ∧ τ.1 0 9 = 0))
theorem TkR_fr {σ τ σ' τ' : Sto} (h : TkR σ τ) (f1 : ∀ k, 3 ≤ k → k ≤ 5 → σ'.1 2 k = σ.1 2 k) (f2 : σ'.2.1 2 6 = σ.2.1 2 6) (g1 : ∀ k, 9 ≤ k → k ≤ 12 → τ'.1 0 k = τ.1 0 k) (g2 : τ'.2.1 0 13 = τ.2.1 0 13) : TkR σ' τ' := by
  unfold TkR at *
  rw [f1 4 (by omega) (by omega), f1 3 (by omega) (by omega), f1 5 (by omega) (by omega), f2, g2, g1 9 (by omega) (by omega), g1 10 (by omega) (by omega), g1 11 (by omega) (by omega), g1 12 (by omega) (by omega)]
  exact h
theorem c_isL (σ : Sto) {b : Int} (h : 0 ≤ b ∧ b ≤ 255) : F_X6_isLetter σ (zI b) = some (if 97 ≤ b ∧ b ≤ 122 then 1 else 0) := by
  unfold F_X6_isLetter
  rw [show (97 : Int32) = zI 97 from by decide, show (122 : Int32) = zI 122 from by decide]
  by_cases q1 : b < 97
  · rw [if_pos (zltT (by omega)), if_neg (by omega)]
  · rw [if_neg (zltF (by omega))]
    by_cases q2 : 122 < b
    · rw [if_pos (zltT (by omega)), if_neg (by omega)]
    · rw [if_neg (zltF (by omega)), if_pos (by omega)]
theorem c_isD (σ : Sto) {b : Int} (h : 0 ≤ b ∧ b ≤ 255) : F_X6_isDigit σ (zI b) = some (if 48 ≤ b ∧ b ≤ 57 then 1 else 0) := by
  unfold F_X6_isDigit
  rw [show (48 : Int32) = zI 48 from by decide, show (57 : Int32) = zI 57 from by decide]
  by_cases q1 : b < 48
  · rw [if_pos (zltT (by omega)), if_neg (by omega)]
  · rw [if_neg (zltF (by omega))]
    by_cases q2 : 57 < b
    · rw [if_pos (zltT (by omega)), if_neg (by omega)]
    · rw [if_neg (zltF (by omega)), if_pos (by omega)]
theorem m_isL {T : Nat → Int} {z p : Nat} {σ τ : Sto} (h : Ps T z σ τ p) : F_X12_isLetterAt τ (zI p) = some (if p < z ∧ 97 ≤ T p ∧ T p ≤ 122 then 1 else 0) := by
  obtain ⟨⟨-, a2, a3⟩, -, ⟨b1, -, -⟩, c⟩ := h
  unfold F_X12_isLetterAt
  rw [b1]
  by_cases q : p < z
  · obtain ⟨-, c2, c3, c4⟩ := c p q
    have e := m_in τ (a := T p) (b := 97) (c := 122) (by omega) (by omega) (by omega)
    rw [if_neg (zleF (by omega))]
    simp (disch := omega) only [zI_ib, zI_ix, Int.toNat_natCast]
    rw [if_pos (by omega), c2, show (97 : Int32) = zI 97 from by decide, show (122 : Int32) = zI 122 from by decide, e, Option.bind_some]
    by_cases q2 : 97 ≤ T p ∧ T p ≤ 122
    · rw [if_pos q2, if_neg (by decide), if_pos ⟨q, q2⟩]
    · rw [if_neg q2, if_pos (by decide), if_neg (fun h => q2 h.2)]
  · rw [if_pos (zleT (by omega)), if_neg (fun h => q h.1)]
theorem m_isD {T : Nat → Int} {z p : Nat} {σ τ : Sto} (h : Ps T z σ τ p) : F_X12_isDigitAt τ (zI p) = some (if p < z ∧ 48 ≤ T p ∧ T p ≤ 57 then 1 else 0) := by
  obtain ⟨⟨-, a2, a3⟩, -, ⟨b1, -, -⟩, c⟩ := h
  unfold F_X12_isDigitAt
  rw [b1]
  by_cases q : p < z
  · obtain ⟨-, c2, c3, c4⟩ := c p q
    have e := m_in τ (a := T p) (b := 48) (c := 57) (by omega) (by omega) (by omega)
    rw [if_neg (zleF (by omega))]
    simp (disch := omega) only [zI_ib, zI_ix, Int.toNat_natCast]
    rw [if_pos (by omega), c2, show (48 : Int32) = zI 48 from by decide, show (57 : Int32) = zI 57 from by decide, e, Option.bind_some]
    by_cases q2 : 48 ≤ T p ∧ T p ≤ 57
    · rw [if_pos q2, if_neg (by decide), if_pos ⟨q, q2⟩]
    · rw [if_neg q2, if_pos (by decide), if_neg (fun h => q2 h.2)]
  · rw [if_pos (zleT (by omega)), if_neg (fun h => q h.1)]
theorem shC1 : shC 1 = (20, 500) := by decide
/-- a word's letters -/
def WI (σ τ : Sto) (a p : Nat) : Prop := p ≤ a + 7 → ∃ l : List Int, l.length + a = p ∧ (∀ x, x ∈ l → 1 ≤ x ∧ x ≤ 26) ∧ σ.2.1 2 6 = Int64.ofInt (nmV l) ∧ τ.2.1 0 13 = Int64.ofInt (nmV l)
theorem j_wend {T : Nat → Int} {z a p : Nat} {σ τ : Sto} (h : Ps T z σ τ p) (hp : a < p) (ha : σ.1 2 4 = zI a) (hb : τ.1 0 10 = zI a) (w : WI σ τ a p) : ∃ σ' τ' p', F_X6_takeWord_70 σ = some σ' ∧ (if (τ.1 0 6) - (τ.1 0 10) ≤ 7 then (F_X12_goOn_176 τ 2) else (F_X12_goOn_176 τ 0)) = some τ' ∧ Ps T z σ' τ' p' ∧ a < p' ∧ TkR σ' τ' ∧ RdC σ σ' ∧ RdM τ τ' := by
  have pz := h.1.2
  unfold F_X6_takeWord_70 F_X12_goOn_176
  rw [h.2.1.2, ha, h.2.2.1.2.1, hb, zI_sub, zl7]
  have pf : ∀ x y, Ps T z (si σ 2 3 x) (si τ 0 9 y) p := fun x y => Ps_fr h (fun b k q => by rw [si_rd, if_neg (by omega)]) rfl (fun b k q => by rw [si_rd, if_neg (by omega)])
  have tat : ∀ x y, (si σ 2 3 x).1 2 4 = (si τ 0 9 y).1 0 10 := fun x y => by rw [si_rd, if_neg (by omega), si_rd, if_neg (by omega), ha, hb]
  by_cases q : p ≤ a + 7
  · rw [if_pos (zleT (by omega)), if_pos (zleT (by omega)), sw, sw]
    obtain ⟨l, l1, l2, l3, l4⟩ := w q
    refine ⟨_, _, p, rfl, rfl, pf _ _, hp, ⟨tat _ _, Or.inr (Or.inl ⟨by rw [si_rd, if_pos ⟨rfl, rfl⟩], by rw [si_rd, if_pos ⟨rfl, rfl⟩], l, ⟨by omega, by omega, l2⟩, l3, l4⟩)⟩, RdC_si _ _ (by omega), RdM_si _ _ (by omega)⟩
  · rw [if_neg (zleF (by omega)), if_neg (zleF (by omega)), sw, sw]
    refine ⟨_, _, p, rfl, rfl, pf _ _, hp, ⟨tat _ _, Or.inr (Or.inr (Or.inr (Or.inr (Or.inr ⟨by rw [si_rd, if_pos ⟨rfl, rfl⟩], by rw [si_rd, if_pos ⟨rfl, rfl⟩]⟩))))⟩, RdC_si _ _ (by omega), RdM_si _ _ (by omega)⟩
theorem c_tw {T : Nat → Int} {z p j : Nat} {σ τ : Sto} (h : Ps T z σ τ p) : F_X6_takeWord_5 (j + 1) σ = if p < z ∧ 97 ≤ T p ∧ T p ≤ 122 then F_X6_takeWord_5 j (si (sj σ 2 6 ((σ.2.1 2 6 <<< ((Int32.toInt64 5) &&& 63)) ||| Int32.toInt64 (zI (T p) - 97 + 1))) 2 2 (zI ((p + 1 : Nat) : Int))) else F_X6_takeWord_70 σ := by
  have pz := h.1.2
  rw [F_X6_takeWord_5, h.2.1.1, h.2.1.2]
  by_cases q0 : p < z
  · obtain ⟨t1, t2, t3, t4⟩ := h.2.2.2 p q0
    rw [if_neg (zleF (by omega)), h.1.1, Option.bind_some, if_pos shC1]
    simp (disch := omega) only [zI_ib, zI_ix, Int.toNat_natCast]
    rw [if_pos (by omega), t1, c_isL σ ⟨t3, t4⟩, Option.bind_some]
    by_cases q : 97 ≤ T p ∧ T p ≤ 122
    · rw [if_pos q, if_pos (show p < z ∧ 97 ≤ T p ∧ T p ≤ 122 from ⟨q0, q⟩), if_neg (show ¬ (1 : Int32) = 0 by decide), Option.bind_some, if_pos shC1, t1, sw, sw, sj_1, h.2.1.2, zI_s1]
    · rw [if_neg q, if_neg (show ¬ (p < z ∧ 97 ≤ T p ∧ T p ≤ 122) from fun hh => q hh.2), if_pos (show (0 : Int32) = 0 from rfl)]
  · rw [if_pos (zleT (by omega)), if_neg (show ¬ (p < z ∧ 97 ≤ T p ∧ T p ≤ 122) from fun hh => q0 hh.1)]
theorem m_tw {T : Nat → Int} {z p j a : Nat} {σ τ : Sto} (h : Ps T z σ τ p) (ha : a ≤ p) (hb : τ.1 0 10 = zI a) : F_X12_goOn_89 (j + 1) τ = if p < z ∧ 97 ≤ T p ∧ T p ≤ 122 then (if a + 7 ≤ p then F_X12_goOn_89 j (si τ 0 6 (zI ((p + 1 : Nat) : Int))) else F_X12_goOn_89 j (si (sj τ 0 13 ((((τ.2.1 0 13 * 32) + Int32.toInt64 (zI (T p))) - 97) + 1)) 0 6 (zI ((p + 1 : Nat) : Int)))) else (if (τ.1 0 6) - (τ.1 0 10) ≤ 7 then (F_X12_goOn_176 τ 2) else (F_X12_goOn_176 τ 0)) := by
  have pz := h.1.2
  rw [F_X12_goOn_89]
  have e := m_isL h
  rw [← h.2.2.1.2.1] at e
  rw [e, Option.bind_some]
  by_cases q : p < z ∧ 97 ≤ T p ∧ T p ≤ 122
  · obtain ⟨t1, t2, t3, t4⟩ := h.2.2.2 p q.1
    rw [if_pos q, if_pos q, if_neg (show ¬ (1 : Int32) = 0 by decide), h.2.2.1.2.1, hb, zI_sub, zl7]
    unfold F_X12_goOn_143
    by_cases q7 : a + 7 ≤ p
    · rw [if_pos (zleT (by omega)), if_pos q7, sw, h.2.2.1.2.1, zI_s1]
    · rw [if_neg (zleF (by omega)), if_neg q7]
      simp (disch := omega) only [zI_ib, zI_ix, Int.toNat_natCast]
      rw [if_pos (by omega), t2, sw, sw, sj_1, h.2.2.1.2.1, zI_s1]
  · rw [if_neg q, if_neg q, if_pos (show (0 : Int32) = 0 from rfl)]
theorem j_word {T : Nat → Int} {z a : Nat} : ∀ (d p j i : Nat) (σ τ : Sto), p + d = z → d < j → d < i → Ps T z σ τ p → a ≤ p → (a < p ∨ (p < z ∧ 97 ≤ T p ∧ T p ≤ 122)) → σ.1 2 4 = zI a → τ.1 0 10 = zI a → WI σ τ a p → ∃ σ' τ' p', F_X6_takeWord_5 j σ = some σ' ∧ F_X12_goOn_89 i τ = some τ' ∧ Ps T z σ' τ' p' ∧ a < p' ∧ TkR σ' τ' ∧ RdC σ σ' ∧ RdM τ τ' := by
  intro d
  induction d with
  | zero =>
    intro p j i σ τ k1 k2 k3 h ap lt ha hb w
    obtain ⟨j, rfl⟩ : ∃ x, j = x + 1 := ⟨j - 1, by omega⟩
    obtain ⟨i, rfl⟩ : ∃ x, i = x + 1 := ⟨i - 1, by omega⟩
    have nq : ¬ (p < z ∧ 97 ≤ T p ∧ T p ≤ 122) := by omega
    rw [c_tw h, m_tw h ap hb, if_neg nq, if_neg nq]
    exact j_wend h (by omega) ha hb w
  | succ d ih =>
    intro p j i σ τ k1 k2 k3 h ap lt ha hb w
    obtain ⟨j, rfl⟩ : ∃ x, j = x + 1 := ⟨j - 1, by omega⟩
    obtain ⟨i, rfl⟩ : ∃ x, i = x + 1 := ⟨i - 1, by omega⟩
    rw [c_tw h, m_tw h ap hb]
    by_cases q : p < z ∧ 97 ≤ T p ∧ T p ≤ 122
    · rw [if_pos q, if_pos q]
      by_cases q7 : a + 7 ≤ p
      · rw [if_pos q7]
        have hs : ∀ x, Ps T z (sj σ 2 6 x) τ p := fun x => Ps_fr h (fun _ _ _ => rfl) rfl (fun _ _ _ => rfl)
        obtain ⟨σ', τ', p', a1, a2, a3, a4, a5, a6, a7⟩ := ih (p + 1) j i _ _ (by omega) (by omega) (by omega) (Ps_nx (hs ((σ.2.1 2 6 <<< ((Int32.toInt64 5) &&& 63)) ||| Int32.toInt64 (zI (T p) - 97 + 1))) q.1) (by omega) (Or.inl (by omega)) (by rw [si_rd, if_neg (by omega)]; exact ha) (by rw [si_rd, if_neg (by omega)]; exact hb) (fun hh => by omega)
        exact ⟨σ', τ', p', a1, a2, a3, a4, a5, RdC_tr (RdC_tr (RdC_sj _ _) (RdC_si _ _ (by omega))) a6, RdM_tr (RdM_si _ _ (by omega)) a7⟩
      · rw [if_neg q7]
        obtain ⟨l, l1, l2, l3, l4⟩ := w (by omega)
        have nb := nmV_6 l2 (by omega)
        rw [l3, l4, w_cls nb q.2, w_ref q.2]
        have hs : ∀ x y, Ps T z (sj σ 2 6 x) (sj τ 0 13 y) p := fun x y => Ps_fr h (fun _ _ _ => rfl) rfl (fun _ _ _ => rfl)
        have w2 : WI (si (sj σ 2 6 (Int64.ofInt (nmV l * 32 + (T p - 96)))) 2 2 (zI ((p + 1 : Nat) : Int))) (si (sj τ 0 13 (Int64.ofInt (nmV l * 32 + (T p - 96)))) 0 6 (zI ((p + 1 : Nat) : Int))) a (p + 1) := by
          intro hh
          refine ⟨(T p - 96) :: l, by rw [List.length_cons]; omega, fun x hx => ?_, ?_, ?_⟩
          · rcases List.mem_cons.mp hx with e | e
            · rw [e]; omega
            · exact l2 x e
          · rw [si_2, sj_rd, if_pos ⟨rfl, rfl⟩]; rfl
          · rw [si_2, sj_rd, if_pos ⟨rfl, rfl⟩]; rfl
        obtain ⟨σ', τ', p', a1, a2, a3, a4, a5, a6, a7⟩ := ih (p + 1) j i _ _ (by omega) (by omega) (by omega) (Ps_nx (hs _ _) q.1) (by omega) (Or.inl (by omega)) (by rw [si_rd, if_neg (by omega)]; exact ha) (by rw [si_rd, if_neg (by omega)]; exact hb) w2
        exact ⟨σ', τ', p', a1, a2, a3, a4, a5, RdC_tr (RdC_tr (RdC_sj _ _) (RdC_si _ _ (by omega))) a6, RdM_tr (RdM_tr (RdM_sj _ _) (RdM_si _ _ (by omega))) a7⟩
    · rw [if_neg q, if_neg q]
      exact j_wend h (by omega) ha hb w
/-- a number's digits -/
def NI (σ τ : Sto) (a p : Nat) : Prop := p ≤ a + 3 → ∃ v : Nat, v < 10 ^ (p - a) ∧ σ.1 2 5 = zI v ∧ τ.1 0 12 = zI v
theorem j_nend {T : Nat → Int} {z a p : Nat} {σ τ : Sto} (h : Ps T z σ τ p) (hp : a < p) (ha : σ.1 2 4 = zI a) (hb : τ.1 0 10 = zI a) (w : NI σ τ a p) : ∃ σ' τ' p', F_X6_takeWhole_68 σ = some σ' ∧ (if (τ.1 0 6) - (τ.1 0 10) ≤ 3 then (F_X12_goOn_278 τ 3) else (F_X12_goOn_278 τ 0)) = some τ' ∧ Ps T z σ' τ' p' ∧ a < p' ∧ TkR σ' τ' ∧ RdC σ σ' ∧ RdM τ τ' := by
  have pz := h.1.2
  unfold F_X6_takeWhole_68 F_X12_goOn_278
  rw [h.2.1.2, ha, h.2.2.1.2.1, hb, zI_sub]
  have pf : ∀ x y, Ps T z (si σ 2 3 x) (si τ 0 9 y) p := fun x y => Ps_fr h (fun b k q => by rw [si_rd, if_neg (by omega)]) rfl (fun b k q => by rw [si_rd, if_neg (by omega)])
  have tat : ∀ x y, (si σ 2 3 x).1 2 4 = (si τ 0 9 y).1 0 10 := fun x y => by rw [si_rd, if_neg (by omega), si_rd, if_neg (by omega), ha, hb]
  by_cases q : p ≤ a + 3
  · have qz : zI ((p : Int) - a) ≤ 3 := by rw [zl3]; exact zleT (by omega)
    rw [if_pos qz, if_pos qz, sw, sw]
    obtain ⟨v, v1, v2, v3⟩ := w q
    have v4 := Nat.pow_le_pow_right (show 0 < 10 by omega) (show p - a ≤ 3 by omega)
    refine ⟨_, _, p, rfl, rfl, pf _ _, hp, ⟨tat _ _, Or.inr (Or.inr (Or.inl ⟨by rw [si_rd, if_pos ⟨rfl, rfl⟩], by rw [si_rd, if_pos ⟨rfl, rfl⟩], v, by omega, by omega, by rw [si_rd, if_neg (by omega)]; exact v2, by rw [si_rd, if_neg (by omega)]; exact v3⟩))⟩, RdC_si _ _ (by omega), RdM_si _ _ (by omega)⟩
  · have qz : ¬ zI ((p : Int) - a) ≤ 3 := by rw [zl3]; exact zleF (by omega)
    rw [if_neg qz, if_neg qz, sw, sw]
    refine ⟨_, _, p, rfl, rfl, pf _ _, hp, ⟨tat _ _, Or.inr (Or.inr (Or.inr (Or.inr (Or.inr ⟨by rw [si_rd, if_pos ⟨rfl, rfl⟩], by rw [si_rd, if_pos ⟨rfl, rfl⟩]⟩))))⟩, RdC_si _ _ (by omega), RdM_si _ _ (by omega)⟩
theorem c_tn {T : Nat → Int} {z p j : Nat} {σ τ : Sto} (h : Ps T z σ τ p) : F_X6_takeWhole_5 (j + 1) σ = if p < z ∧ 48 ≤ T p ∧ T p ≤ 57 then F_X6_takeWhole_5 j (si (si σ 2 5 (((σ.1 2 5 * 10) + zI (T p)) - 48)) 2 2 (zI ((p + 1 : Nat) : Int))) else F_X6_takeWhole_68 σ := by
  have pz := h.1.2
  rw [F_X6_takeWhole_5, h.2.1.1, h.2.1.2]
  by_cases q0 : p < z
  · obtain ⟨t1, t2, t3, t4⟩ := h.2.2.2 p q0
    rw [if_neg (zleF (by omega)), h.1.1, Option.bind_some, if_pos shC1]
    simp (disch := omega) only [zI_ib, zI_ix, Int.toNat_natCast]
    rw [if_pos (by omega), t1, c_isD σ ⟨t3, t4⟩, Option.bind_some]
    by_cases q : 48 ≤ T p ∧ T p ≤ 57
    · rw [if_pos q, if_pos (show p < z ∧ 48 ≤ T p ∧ T p ≤ 57 from ⟨q0, q⟩), if_neg (show ¬ (1 : Int32) = 0 by decide), Option.bind_some, if_pos shC1, t1, sw, sw, si_rd, if_neg (by omega), h.2.1.2, zI_s1]
    · rw [if_neg q, if_neg (show ¬ (p < z ∧ 48 ≤ T p ∧ T p ≤ 57) from fun hh => q hh.2), if_pos (show (0 : Int32) = 0 from rfl)]
  · rw [if_pos (zleT (by omega)), if_neg (show ¬ (p < z ∧ 48 ≤ T p ∧ T p ≤ 57) from fun hh => q0 hh.1)]
theorem m_tn {T : Nat → Int} {z p j a : Nat} {σ τ : Sto} (h : Ps T z σ τ p) (ha : a ≤ p) (hb : τ.1 0 10 = zI a) : F_X12_goOn_198 (j + 1) τ = if p < z ∧ 48 ≤ T p ∧ T p ≤ 57 then (if a + 3 ≤ p then F_X12_goOn_198 j (si τ 0 6 (zI ((p + 1 : Nat) : Int))) else F_X12_goOn_198 j (si (si τ 0 12 (((10 * τ.1 0 12) + zI (T p)) - 48)) 0 6 (zI ((p + 1 : Nat) : Int)))) else (if (τ.1 0 6) - (τ.1 0 10) ≤ 3 then (F_X12_goOn_278 τ 3) else (F_X12_goOn_278 τ 0)) := by
  have pz := h.1.2
  rw [F_X12_goOn_198]
  have e := m_isD h
  rw [← h.2.2.1.2.1] at e
  rw [e, Option.bind_some]
  by_cases q : p < z ∧ 48 ≤ T p ∧ T p ≤ 57
  · obtain ⟨t1, t2, t3, t4⟩ := h.2.2.2 p q.1
    rw [if_pos q, if_pos q, if_neg (show ¬ (1 : Int32) = 0 by decide), h.2.2.1.2.1, hb, zI_sub, zl3]
    unfold F_X12_goOn_246
    by_cases q7 : a + 3 ≤ p
    · rw [if_pos (zleT (by omega)), if_pos q7, sw, h.2.2.1.2.1, zI_s1]
    · rw [if_neg (zleF (by omega)), if_neg q7]
      simp (disch := omega) only [zI_ib, zI_ix, Int.toNat_natCast]
      rw [if_pos (by omega), t2, sw, sw, si_rd, if_neg (by omega), h.2.2.1.2.1, zI_s1]
  · rw [if_neg q, if_neg q, if_pos (show (0 : Int32) = 0 from rfl)]
theorem j_num {T : Nat → Int} {z a : Nat} : ∀ (d p j i : Nat) (σ τ : Sto), p + d = z → d < j → d < i → Ps T z σ τ p → a ≤ p → (a < p ∨ (p < z ∧ 48 ≤ T p ∧ T p ≤ 57)) → σ.1 2 4 = zI a → τ.1 0 10 = zI a → NI σ τ a p → ∃ σ' τ' p', F_X6_takeWhole_5 j σ = some σ' ∧ F_X12_goOn_198 i τ = some τ' ∧ Ps T z σ' τ' p' ∧ a < p' ∧ TkR σ' τ' ∧ RdC σ σ' ∧ RdM τ τ' := by
  intro d
  induction d with
  | zero =>
    intro p j i σ τ k1 k2 k3 h ap lt ha hb w
    obtain ⟨j, rfl⟩ : ∃ x, j = x + 1 := ⟨j - 1, by omega⟩
    obtain ⟨i, rfl⟩ : ∃ x, i = x + 1 := ⟨i - 1, by omega⟩
    have nq : ¬ (p < z ∧ 48 ≤ T p ∧ T p ≤ 57) := by omega
    rw [c_tn h, m_tn h ap hb, if_neg nq, if_neg nq]
    exact j_nend h (by omega) ha hb w
  | succ d ih =>
    intro p j i σ τ k1 k2 k3 h ap lt ha hb w
    obtain ⟨j, rfl⟩ : ∃ x, j = x + 1 := ⟨j - 1, by omega⟩
    obtain ⟨i, rfl⟩ : ∃ x, i = x + 1 := ⟨i - 1, by omega⟩
    rw [c_tn h, m_tn h ap hb]
    by_cases q : p < z ∧ 48 ≤ T p ∧ T p ≤ 57
    · rw [if_pos q, if_pos q]
      by_cases q7 : a + 3 ≤ p
      · rw [if_pos q7]
        have hs : ∀ x, Ps T z (si σ 2 5 x) τ p := fun x => Ps_fr h (fun b k hk => by rw [si_rd, if_neg (by omega)]) rfl (fun _ _ _ => rfl)
        obtain ⟨σ', τ', p', a1, a2, a3, a4, a5, a6, a7⟩ := ih (p + 1) j i _ _ (by omega) (by omega) (by omega) (Ps_nx (hs (((σ.1 2 5 * 10) + zI (T p)) - 48)) q.1) (by omega) (Or.inl (by omega)) (by rw [si_rd, if_neg (by omega), si_rd, if_neg (by omega)]; exact ha) (by rw [si_rd, if_neg (by omega)]; exact hb) (fun hh => by omega)
        exact ⟨σ', τ', p', a1, a2, a3, a4, a5, RdC_tr (RdC_tr (RdC_si _ _ (by omega)) (RdC_si _ _ (by omega))) a6, RdM_tr (RdM_si _ _ (by omega)) a7⟩
      · rw [if_neg q7]
        obtain ⟨v, v1, v2, v3⟩ := w (by omega)
        have e1 : σ.1 2 5 * 10 + zI (T p) - 48 = zI ((v * 10 + (T p - 48).toNat : Nat) : Int) := by
          rw [v2, zl10, show (48 : Int32) = zI 48 from by decide, zI_mul, zI_add, zI_sub]
          congr 1
          omega
        have e2 : 10 * τ.1 0 12 + zI (T p) - 48 = zI ((v * 10 + (T p - 48).toNat : Nat) : Int) := by
          rw [v3, zl10, show (48 : Int32) = zI 48 from by decide, zI_mul, zI_add, zI_sub]
          congr 1
          omega
        rw [e1, e2]
        have hs : ∀ x y, Ps T z (si σ 2 5 x) (si τ 0 12 y) p := fun x y => Ps_fr h (fun b k hk => by rw [si_rd, if_neg (by omega)]) rfl (fun b k hk => by rw [si_rd, if_neg (by omega)])
        have w2 : NI (si (si σ 2 5 (zI ((v * 10 + (T p - 48).toNat : Nat) : Int))) 2 2 (zI ((p + 1 : Nat) : Int))) (si (si τ 0 12 (zI ((v * 10 + (T p - 48).toNat : Nat) : Int))) 0 6 (zI ((p + 1 : Nat) : Int))) a (p + 1) := by
          intro hh
          refine ⟨v * 10 + (T p - 48).toNat, ?_, ?_, ?_⟩
          · rw [show p + 1 - a = (p - a) + 1 by omega, Nat.pow_succ]
            omega
          · rw [si_rd, if_neg (by omega), si_rd, if_pos ⟨rfl, rfl⟩]
          · rw [si_rd, if_neg (by omega), si_rd, if_pos ⟨rfl, rfl⟩]
        obtain ⟨σ', τ', p', a1, a2, a3, a4, a5, a6, a7⟩ := ih (p + 1) j i _ _ (by omega) (by omega) (by omega) (Ps_nx (hs _ _) q.1) (by omega) (Or.inl (by omega)) (by rw [si_rd, if_neg (by omega), si_rd, if_neg (by omega)]; exact ha) (by rw [si_rd, if_neg (by omega), si_rd, if_neg (by omega)]; exact hb) w2
        exact ⟨σ', τ', p', a1, a2, a3, a4, a5, RdC_tr (RdC_tr (RdC_si _ _ (by omega)) (RdC_si _ _ (by omega))) a6, RdM_tr (RdM_tr (RdM_si _ _ (by omega)) (RdM_si _ _ (by omega))) a7⟩
    · rw [if_neg q, if_neg q]
      exact j_nend h (by omega) ha hb w
/-- a token -/
theorem j_a38 {T : Nat → Int} {z p : Nat} {σ τ : Sto} (h : Ps T z σ τ p) : ∃ σ' τ' p', F_X6_advance_38 σ = some σ' ∧ F_X12_goOn_46 τ = some τ' ∧ Ps T z σ' τ' p' ∧ p ≤ p' ∧ (σ'.1 2 3 ≠ 0 → p < p') ∧ TkR σ' τ' ∧ RdC σ σ' ∧ RdM τ τ' := by
  have pz := h.1.2
  unfold F_X6_advance_38 F_X12_goOn_46
  rw [sw, sw, sw]
  have fC : RdC σ (si σ 2 4 (σ.1 2 2)) := RdC_si _ _ (by omega)
  have fM : RdM τ (si τ 0 10 (τ.1 0 6)) := RdM_si _ _ (by omega)
  have h1 : Ps T z (si σ 2 4 (σ.1 2 2)) (si τ 0 10 (τ.1 0 6)) p := Ps_fr h (fun b k q => by rw [si_rd, if_neg (by omega)]) rfl (fun b k q => by rw [si_rd, if_neg (by omega)])
  have ca : (si σ 2 4 (σ.1 2 2)).1 2 4 = zI p := by rw [si_rd, if_pos ⟨rfl, rfl⟩]; exact h.2.1.2
  have ma : (si τ 0 10 (τ.1 0 6)).1 0 10 = zI p := by rw [si_rd, if_pos ⟨rfl, rfl⟩]; exact h.2.2.1.2.1
  generalize si σ 2 4 (σ.1 2 2) = s at *
  generalize si τ 0 10 (τ.1 0 6) = t at *
  have eD := m_isD h1
  have eL := m_isL h1
  rw [h1.2.1.1, h1.2.1.2, h1.2.2.1.1, h1.2.2.1.2.1]
  by_cases q0 : p < z
  · obtain ⟨t1, t2, t3, t4⟩ := h1.2.2.2 p q0
    rw [if_pos (zltT (by omega)), h1.1.1, Option.bind_some, if_pos shC1, if_neg (show ¬ zI (p : Int) = zI (z : Int) from by rw [zI_eq (by omega) (by omega) (by omega) (by omega)]; omega), eL]
    simp (disch := omega) only [zI_ib, zI_ix, Int.toNat_natCast]
    rw [if_pos (show (0 : Int) ≤ (p : Int) ∧ (p : Int) < ((500 : Nat) : Int) by omega), t1, c_isL s ⟨t3, t4⟩]
    by_cases qL : 97 ≤ T p ∧ T p ≤ 122
    · rw [if_pos qL, if_pos (show p < z ∧ 97 ≤ T p ∧ T p ≤ 122 from ⟨q0, qL⟩)]
      have hs : Ps T z (sj s 2 6 0) (sj t 0 13 0) p := Ps_fr h1 (fun _ _ _ => rfl) rfl (fun _ _ _ => rfl)
      have w0 : WI (sj s 2 6 0) (sj t 0 13 0) p p := by
        intro _
        refine ⟨[], by simp, ?_, ?_, ?_⟩
        · intro x hx; cases hx
        · rw [sj_rd, if_pos ⟨rfl, rfl⟩]; rfl
        · rw [sj_rd, if_pos ⟨rfl, rfl⟩]; rfl
      obtain ⟨σ', τ', p', a1, a2, a3, a4, a5, a6, a7⟩ := j_word (z - p) p FU FU (sj s 2 6 0) (sj t 0 13 0) (by omega) (FU_lt (by omega)) (FU_lt (by omega)) hs (Nat.le_refl _) (Or.inr ⟨q0, qL⟩) ca ma w0
      refine ⟨σ', τ', p', ?_, ?_, a3, by omega, fun _ => a4, a5, RdC_tr fC (RdC_tr (RdC_sj _ _) a6), RdM_tr fM (RdM_tr (RdM_sj _ _) a7)⟩
      · rw [Option.bind_some, if_neg (show ¬ (1 : Int32) = 0 by decide)]
        unfold F_X6_takeWord
        rw [sw, a1]
        rfl
      · rw [Option.bind_some, if_neg (show ¬ (1 : Int32) = 0 by decide), sw]
        exact a2
    · rw [if_neg qL, if_neg (show ¬ (p < z ∧ 97 ≤ T p ∧ T p ≤ 122) from fun hh => qL hh.2)]
      by_cases qD : 48 ≤ T p ∧ T p ≤ 57
      · have hs : Ps T z (si s 2 5 0) (si t 0 12 0) p := Ps_fr h1 (fun b k q => by rw [si_rd, if_neg (by omega)]) rfl (fun b k q => by rw [si_rd, if_neg (by omega)])
        obtain ⟨σ', τ', p', a1, a2, a3, a4, a5, a6, a7⟩ := j_num (z - p) p FU FU (si s 2 5 0) (si t 0 12 0) (by omega) (FU_lt (by omega)) (FU_lt (by omega)) hs (Nat.le_refl _) (Or.inr ⟨q0, qD⟩) (by rw [si_rd, if_neg (by omega)]; exact ca) (by rw [si_rd, if_neg (by omega)]; exact ma) (fun _ => ⟨0, by rw [Nat.sub_self]; decide, by rw [si_rd, if_pos ⟨rfl, rfl⟩]; rfl, by rw [si_rd, if_pos ⟨rfl, rfl⟩]; rfl⟩)
        refine ⟨σ', τ', p', ?_, ?_, a3, by omega, fun _ => a4, a5, RdC_tr fC (RdC_tr (RdC_si _ _ (by omega)) a6), RdM_tr fM (RdM_tr (RdM_si _ _ (by omega)) a7)⟩
        · rw [Option.bind_some, if_pos (show (0 : Int32) = 0 from rfl), Option.bind_some, if_pos shC1, t1, c_isD s ⟨t3, t4⟩, if_pos qD, Option.bind_some, if_neg (show ¬ (1 : Int32) = 0 by decide)]
          unfold F_X6_takeWhole
          rw [sw, a1]
          rfl
        · rw [Option.bind_some, if_pos (show (0 : Int32) = 0 from rfl), eD, if_pos (show p < z ∧ 48 ≤ T p ∧ T p ≤ 57 from ⟨q0, qD⟩), Option.bind_some, if_neg (show ¬ (1 : Int32) = 0 by decide)]
          exact a2
      · have fin : ∀ (x : Int32) (y : Int32) (sg : Int32), (∀ s' t', s'.1 2 3 = x → t'.1 0 9 = y → t'.1 0 11 = sg → s'.1 2 4 = t'.1 0 10 → TkR s' t') → ∃ σ' τ' p', F_X6_advance_147 s x = some σ' ∧ F_X12_goOn_321 (si t 0 11 sg) y = some τ' ∧ Ps T z σ' τ' p' ∧ p ≤ p' ∧ (σ'.1 2 3 ≠ 0 → p < p') ∧ TkR σ' τ' ∧ RdC σ σ' ∧ RdM τ τ' := by
          intro x y sg hk
          unfold F_X6_advance_147 F_X12_goOn_321
          rw [sw, sw, sw, sw, si_rd, if_neg (by omega), h1.2.1.2, si_rd, if_neg (by omega), si_rd, if_neg (by omega), h1.2.2.1.2.1, zI_s1]
          have hs : Ps T z (si s 2 3 x) (si (si t 0 11 sg) 0 9 y) p := Ps_fr h1 (fun b k q => by rw [si_rd, if_neg (by omega)]) rfl (fun b k q => by rw [si_rd, if_neg (by omega), si_rd, if_neg (by omega)])
          refine ⟨_, _, p + 1, rfl, rfl, Ps_nx hs q0, by omega, fun _ => by omega, hk _ _ ?_ ?_ ?_ ?_, RdC_tr fC (RdC_tr (RdC_si _ _ (by omega)) (RdC_si _ _ (by omega))), RdM_tr fM (RdM_tr (RdM_si _ _ (by omega)) (RdM_tr (RdM_si _ _ (by omega)) (RdM_si _ _ (by omega))))⟩
          · rw [si_rd, if_neg (by omega), si_rd, if_pos ⟨rfl, rfl⟩]
          · rw [si_rd, if_neg (by omega), si_rd, if_pos ⟨rfl, rfl⟩]
          · rw [si_rd, if_neg (by omega), si_rd, if_neg (by omega), si_rd, if_pos ⟨rfl, rfl⟩]
          · rw [si_rd, if_neg (by omega), si_rd, if_neg (by omega), si_rd, if_neg (by omega), si_rd, if_neg (by omega), si_rd, if_neg (by omega), ca, ma]
        rw [Option.bind_some, if_pos (show (0 : Int32) = 0 from rfl), Option.bind_some, if_pos shC1, t1, c_isD s ⟨t3, t4⟩, if_neg qD, Option.bind_some, if_pos (show (0 : Int32) = 0 from rfl), Option.bind_some, if_pos shC1, t1, Option.bind_some, if_pos shC1, t1]
        rw [Option.bind_some, if_pos (show (0 : Int32) = 0 from rfl), eD, if_neg (show ¬ (p < z ∧ 48 ≤ T p ∧ T p ≤ 57) from fun hh => qD hh.2), Option.bind_some, if_pos (show (0 : Int32) = 0 from rfl), if_pos (show (0 : Int) ≤ (p : Int) ∧ (p : Int) < ((500 : Nat) : Int) by omega), t2, sw, si_rd, if_pos (show (0 : Nat) = 0 ∧ (11 : Nat) = 11 from ⟨rfl, rfl⟩), show (59 : Int32) = zI 59 from by decide, show (44 : Int32) = zI 44 from by decide]
        by_cases q59 : T p = 59
        · have e : zI (T p) = zI 59 := by rw [q59]
          rw [if_pos e, if_pos e]
          unfold F_X12_goOn_316
          exact fin 3 4 (zI (T p)) (fun s' t' k1 k2 k3 k4 => ⟨k4, Or.inr (Or.inr (Or.inr (Or.inl ⟨k1, k2, by rw [k3, q59]; rfl⟩)))⟩)
        · have e : ¬ zI (T p) = zI 59 := by rw [zI_eq (by omega) (by omega) (by omega) (by omega)]; exact q59
          rw [if_neg e, if_neg e]
          by_cases q44 : T p = 44
          · have e : zI (T p) = zI 44 := by rw [q44]
            rw [if_pos e, if_pos e]
            unfold F_X12_goOn_316
            exact fin 4 4 (zI (T p)) (fun s' t' k1 k2 k3 k4 => ⟨k4, Or.inr (Or.inr (Or.inr (Or.inr (Or.inl ⟨k1, k2, by rw [k3, q44]; rfl⟩))))⟩)
          · have e : ¬ zI (T p) = zI 44 := by rw [zI_eq (by omega) (by omega) (by omega) (by omega)]; exact q44
            rw [if_neg e, if_neg e]
            exact fin 5 0 (zI (T p)) (fun s' t' k1 k2 k3 k4 => ⟨k4, Or.inr (Or.inr (Or.inr (Or.inr (Or.inr ⟨k1, k2⟩))))⟩)
  · rw [if_neg (zltF (by omega)), if_pos (show zI (p : Int) = zI (z : Int) from by rw [show p = z by omega]), sw]
    have hs : Ps T z (si s 2 3 0) (si t 0 9 1) p := Ps_fr h1 (fun b k q => by rw [si_rd, if_neg (by omega)]) rfl (fun b k q => by rw [si_rd, if_neg (by omega)])
    refine ⟨_, _, p, rfl, rfl, hs, Nat.le_refl _, fun hh => absurd (by rw [si_rd, if_pos ⟨rfl, rfl⟩]) hh, ⟨?_, Or.inl ⟨by rw [si_rd, if_pos ⟨rfl, rfl⟩], by rw [si_rd, if_pos ⟨rfl, rfl⟩]⟩⟩, RdC_tr fC (RdC_si _ _ (by omega)), RdM_tr fM (RdM_si _ _ (by omega))⟩
    rw [si_rd, if_neg (by omega), si_rd, if_neg (by omega), ca, ma]
theorem j_adv {T : Nat → Int} {z p : Nat} {σ τ : Sto} (h : Ps T z σ τ p) : ∃ σ' τ' p', F_X6_advance σ = some σ' ∧ F_X12_goOn τ = some τ' ∧ Ps T z σ' τ' p' ∧ p ≤ p' ∧ (σ'.1 2 3 ≠ 0 → p < p') ∧ TkR σ' τ' ∧ RdC σ σ' ∧ RdM τ τ' := by
  have key : ∀ (d p j i : Nat) (σ τ : Sto), p + d = z → d < j → d < i → Ps T z σ τ p → ∃ σ' τ' p', F_X6_advance_0 j σ = some σ' ∧ F_X12_goOn_8 i τ = some τ' ∧ Ps T z σ' τ' p' ∧ p ≤ p' ∧ (σ'.1 2 3 ≠ 0 → p < p') ∧ TkR σ' τ' ∧ RdC σ σ' ∧ RdM τ τ' := by
    intro d
    induction d with
    | zero =>
      intro p j i σ τ k1 k2 k3 h
      obtain ⟨j, rfl⟩ : ∃ x, j = x + 1 := ⟨j - 1, by omega⟩
      obtain ⟨i, rfl⟩ : ∃ x, i = x + 1 := ⟨i - 1, by omega⟩
      have pz := h.1.2
      rw [F_X6_advance_0, F_X12_goOn_8, h.2.1.1, h.2.1.2, h.2.2.1.1, h.2.2.1.2.1, if_pos (zleT (by omega)), if_pos (zleT (by omega))]
      exact j_a38 h
    | succ d ih =>
      intro p j i σ τ k1 k2 k3 h
      obtain ⟨j, rfl⟩ : ∃ x, j = x + 1 := ⟨j - 1, by omega⟩
      obtain ⟨i, rfl⟩ : ∃ x, i = x + 1 := ⟨i - 1, by omega⟩
      have pz := h.1.2
      obtain ⟨t1, t2, t3, t4⟩ := h.2.2.2 p (by omega)
      rw [F_X6_advance_0, F_X12_goOn_8, h.2.1.1, h.2.1.2, h.2.2.1.1, h.2.2.1.2.1, if_neg (zleF (by omega)), if_neg (zleF (by omega)), h.1.1, Option.bind_some, if_pos shC1]
      simp (disch := omega) only [zI_ib, zI_ix, Int.toNat_natCast]
      rw [if_pos (show (0 : Int) ≤ (p : Int) ∧ (p : Int) < ((500 : Nat) : Int) by omega), if_pos (show (0 : Int) ≤ (p : Int) ∧ (p : Int) < ((500 : Nat) : Int) by omega), t1, t2, zI_s1]
      by_cases q : zI (T p) = 32
      · rw [if_pos q, if_pos q, sw, sw]
        obtain ⟨σ', τ', p', a1, a2, a3, a4, a5, a6, a7, a8⟩ := ih (p + 1) j i _ _ (by omega) (by omega) (by omega) (Ps_nx h (by omega))
        exact ⟨σ', τ', p', a1, a2, a3, by omega, fun hh => by have := a5 hh; omega, a6, RdC_tr (RdC_si _ _ (by omega)) a7, RdM_tr (RdM_si _ _ (by omega)) a8⟩
      · rw [if_neg q, if_neg q]
        exact j_a38 h
  have pz := h.1.2
  unfold F_X12_goOn
  rw [h.2.2.1.2.2, if_pos (Int32.le_refl _)]
  exact key (z - p) p (FU + 1) FU σ τ (by omega) (by have := FU_lt (n := z - p) (by omega); omega) (FU_lt (by omega)) h
