/-! INTS AS WHOLE NUMBERS -/
def zI (z : Int) : Int32 := Int32.ofInt z
theorem zI_add (a b : Int) : zI a + zI b = zI (a + b) := (Int32.ofInt_add a b).symm
theorem zI_sub (a b : Int) : zI a - zI b = zI (a - b) := (Int32.ofInt_sub a b).symm
theorem zI_mul (a b : Int) : zI a * zI b = zI (a * b) := (Int32.ofInt_mul a b).symm
theorem zI_neg (a : Int) : -zI a = zI (-a) := (Int32.ofInt_neg a).symm
theorem zI_to {a : Int} (h1 : -2147483648 ≤ a) (h2 : a < 2147483648) : (zI a).toInt = a := Int32.toInt_ofInt_of_le h1 h2
theorem zI_lt {a b : Int} (h1 : -2147483648 ≤ a) (h2 : a < 2147483648) (h3 : -2147483648 ≤ b) (h4 : b < 2147483648) : (zI a < zI b) = (a < b) := by
  rw [Int32.lt_iff_toInt_lt, zI_to h1 h2, zI_to h3 h4]
theorem zI_le {a b : Int} (h1 : -2147483648 ≤ a) (h2 : a < 2147483648) (h3 : -2147483648 ≤ b) (h4 : b < 2147483648) : (zI a ≤ zI b) = (a ≤ b) := by
  rw [Int32.le_iff_toInt_le, zI_to h1 h2, zI_to h3 h4]
theorem zI_eq {a b : Int} (h1 : -2147483648 ≤ a) (h2 : a < 2147483648) (h3 : -2147483648 ≤ b) (h4 : b < 2147483648) : (zI a = zI b) = (a = b) := by
  rw [← Int32.toInt_inj, zI_to h1 h2, zI_to h3 h4]
theorem zI_ix {a : Int} (h0 : 0 ≤ a) (h1 : a < 2147483648) : ix (zI a) = a.toNat := by
  show (zI a).toInt.toNat = _
  rw [zI_to (by omega) h1]
theorem zI_ib {a : Int} {n : Nat} (h1 : -2147483648 ≤ a) (h2 : a < 2147483648) : (ib (zI a) n) = (0 ≤ a ∧ a < (n : Int)) := by
  apply propext
  show ¬ (zI a < 0 ∨ n ≤ (zI a).toInt.toNat) ↔ _
  rw [show (0 : Int32) = zI 0 from by decide, zI_lt h1 h2 (by decide) (by decide), zI_to h1 h2]
  omega
theorem zI_div {a b : Int} (h1 : -2147483648 ≤ a) (h2 : a < 2147483648) (h3 : -2147483648 ≤ b) (h4 : b < 2147483648) : zI a / zI b = zI (a.tdiv b) :=
  (Int32.ofInt_tdiv (a := a) (b := b) h1 (Int.le_of_lt_add_one h2) h3 (Int.le_of_lt_add_one h4)).symm
theorem zI_toInt (x : Int32) : zI x.toInt = x := Int32.ofInt_toInt x
theorem zI_n (n : Nat) : nI n = zI (n : Int) := (Int32.ofInt_eq_ofNat (n := n)).symm
theorem zl0 : (0 : Int32) = zI 0 := by decide
theorem zl1 : (1 : Int32) = zI 1 := by decide
theorem zl2 : (2 : Int32) = zI 2 := by decide
theorem zl3 : (3 : Int32) = zI 3 := by decide
theorem zl4 : (4 : Int32) = zI 4 := by decide
theorem zl5 : (5 : Int32) = zI 5 := by decide
theorem zl6 : (6 : Int32) = zI 6 := by decide
theorem zl7 : (7 : Int32) = zI 7 := by decide
theorem zl8 : (8 : Int32) = zI 8 := by decide
theorem zl9 : (9 : Int32) = zI 9 := by decide
theorem zl10 : (10 : Int32) = zI 10 := by decide
theorem zl20 : (20 : Int32) = zI 20 := by decide
theorem zl21 : (21 : Int32) = zI 21 := by decide
theorem zl28 : (28 : Int32) = zI 28 := by decide
theorem zl33 : (33 : Int32) = zI 33 := by decide
theorem zl34 : (34 : Int32) = zI 34 := by decide
theorem zl100 : (100 : Int32) = zI 100 := by decide
theorem zlm1 : (-1 : Int32) = zI (-1) := by decide
/-! sums -/
def sz : Nat → (Nat → Int) → Int
  | 0, _ => 0
  | n + 1, f => sz n f + f n
theorem sz_cg {f g : Nat → Int} : ∀ {n : Nat}, (∀ i, i < n → f i = g i) → sz n f = sz n g
  | 0, _ => rfl
  | n + 1, h => by rw [sz, sz, sz_cg (fun i hi => h i (Nat.lt_succ_of_lt hi)), h n (Nat.lt_succ_self n)]
theorem sz_le {f g : Nat → Int} : ∀ {n : Nat}, (∀ i, i < n → f i ≤ g i) → sz n f ≤ sz n g
  | 0, _ => Int.le_refl _
  | n + 1, h => Int.add_le_add (sz_le (fun i hi => h i (Nat.lt_succ_of_lt hi))) (h n (Nat.lt_succ_self n))
theorem sz_c (c : Int) : ∀ (n : Nat), sz n (fun _ => c) = n * c
  | 0 => by simp [sz]
  | n + 1 => by rw [sz, sz_c c n]; push_cast; rw [Int.add_mul]; simp
theorem sz_bd {f : Nat → Int} {n : Nat} {a b : Int} (h : ∀ i, i < n → a ≤ f i ∧ f i ≤ b) : n * a ≤ sz n f ∧ sz n f ≤ n * b := by
  constructor
  · rw [← sz_c a n]; exact sz_le (fun i hi => (h i hi).1)
  · rw [← sz_c b n]; exact sz_le (fun i hi => (h i hi).2)
theorem sz_add (f g : Nat → Int) : ∀ (n : Nat), sz n (fun i => f i + g i) = sz n f + sz n g
  | 0 => rfl
  | n + 1 => by rw [sz, sz, sz, sz_add f g n]; omega
/-- a loop that gathers a sum -/
theorem sum_loop {α : Type} {L : Nat → Int32 → Int32 → Option α} {R : Int → Option α} {n : Nat} {f : Nat → Int} (hs : ∀ (k : Nat) (acc : Int) (i : Nat), i < n → acc = sz i f → L (k + 1) (zI acc) (zI (i : Int)) = L k (zI (acc + f i)) (zI ((i : Int) + 1))) (he : ∀ (k : Nat), L (k + 1) (zI (sz n f)) (zI (n : Int)) = R (sz n f)) : ∀ k, n < k → L k (zI 0) (zI 0) = R (sz n f) := by
  have key : ∀ (d i k : Nat), i + d = n → d < k → L k (zI (sz i f)) (zI (i : Int)) = R (sz n f) := by
    intro d
    induction d with
    | zero =>
      intro i k h1 h2
      obtain ⟨k, rfl⟩ : ∃ j, k = j + 1 := ⟨k - 1, by omega⟩
      have e : i = n := h1
      subst e
      exact he k
    | succ d ih =>
      intro i k h1 h2
      obtain ⟨k, rfl⟩ : ∃ j, k = j + 1 := ⟨k - 1, by omega⟩
      rw [hs k _ i (by omega) rfl]
      have := ih (i + 1) k (by omega) (by omega)
      rw [sz] at this
      rw [← this]
      push_cast
      rfl
  intro k hk
  exact key n 0 k (by omega) hk
theorem FU_lt {n : Nat} (h : n < 6000) : n < FU := h
theorem t_costing {σ : Sto} {t a1 a2 n : Nat} {x p : Nat → Int} {B : Nat → Nat → Int} (ht : (shC t).1 = 9) (h1 : shC a1 = (20, 4)) (h2 : shC a2 = (20, 4)) (hn : σ.1 t 0 = zI n) (hn4 : n ≤ 4) (hx : ∀ s, s < n → σ.1 a1 s = zI (x s)) (hp : ∀ s, s < n → σ.1 a2 s = zI (p s) ∧ 0 ≤ p s ∧ p s ≤ 20) (hB : ∀ s, s < n → ∀ q, q ≤ 20 → σ.1 (t + 5) (21 * s + q) = zI (B s q)) :
    F_X9_costing σ t a1 a2 = some (zI (sz n (fun s => x s * B s (p s).toNat))) := by
  rw [F_X9_costing, zl0]
  refine sum_loop (L := fun k a i => F_X9_costing_5 k σ t a1 a2 a i) (R := fun z => some (zI z)) (f := fun s => x s * B s (p s).toNat) (fun k acc i hi _ => ?_) (fun k => ?_) FU (FU_lt (by omega))
  · obtain ⟨e1, e2, e3⟩ := hp i hi
    have hb := hB i hi (p i).toNat (by omega)
    have hxi := hx i hi
    simp only [F_X9_costing_5, ht, h1, h2, hn, sw, if_true]
    simp (disch := omega) only [zl21, zl1, zI_le, zI_ix, zI_ib, Int.toNat_natCast, hxi, e1, zI_mul, zI_add]
    have e4 : ((i : Int) * 21 + p i).toNat = 21 * i + (p i).toNat := by omega
    rw [if_neg (by omega), if_pos (by omega), if_pos (by omega), e4, hb, zI_mul, zI_add]
  · simp only [F_X9_costing_5, ht, hn, if_true]
    rw [if_pos (Int32.le_refl _)]
