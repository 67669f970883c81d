/-! WHAT A YEAR IS, IN WHOLE NUMBERS: μ (7 s + w) as the reference's row of numbers has it (w: 0 PRICE, 1 NEW, 2 SIZE, 3 SLOPE, 4 COST, 5 QUALITY, 6 TARGET), μ 28 .. 31 the rules, 32 the YEAR, 33 CARRIED -/
def bo (μ : Nat → Int) (s : Nat) (p : Int) : Int := max 0 (μ (7 * s + 2) - μ (7 * s + 3) * p)
def pr (μ : Nat → Int) (s : Nat) (p : Int) : Int := bo μ s p * (p - μ (7 * s + 4))
def go (μ : Nat → Int) (s : Nat) (p : Nat) : Int := pr μ s p + sz (20 - p) (fun j => bo μ s ((p : Int) + 1 + j))
def we (μ : Nat → Int) (s : Nat) : Int := bo μ s (μ (7 * s))
def ba (μ : Nat → Int) (n : Nat) : Int := sz n (fun s => μ (7 * s) * we μ s)
def du1 (μ : Nat → Int) (s : Nat) : Int := max 0 (μ (7 * s + 6) - μ (7 * s + 5)) * μ 31
def du (μ : Nat → Int) (n : Nat) : Int := sz n (fun s => du1 μ s)
def ra (μ : Nat → Int) : Int := 100 + μ 28 - μ 29
def alw (μ : Nat → Int) (n : Nat) (d : Int) : Int := max 0 ((ra μ * ba μ n).tdiv 100 + μ 33 - d)
def al (μ : Nat → Int) (n : Nat) : Int := alw μ n (du μ n)
def sp (μ : Nat → Int) (n : Nat) : Int := sz n (fun s => μ (7 * s + 1) * we μ s)
def of1 (μ : Nat → Int) (n w : Nat) : Int := sz n (fun s => if μ (7 * s + w) ≤ μ (7 * s + 4) then μ (7 * s + 4) - μ (7 * s + w) else μ (7 * s + w) - μ (7 * s + 4))
def allP (μ : Nat → Int) (n : Nat) : Int := sz n (fun s => pr μ s (μ (7 * s + 1)))
def allG (μ : Nat → Int) (n : Nat) : Int := sz n (fun s => go μ s (μ (7 * s + 1)).toNat)
/-- the bounds -/
def GdT (μ : Nat → Int) (n : Nat) : Prop := ∀ s, s < n → (0 ≤ μ (7 * s + 2) ∧ μ (7 * s + 2) ≤ 200) ∧ (0 ≤ μ (7 * s + 3) ∧ μ (7 * s + 3) ≤ 9) ∧ (0 ≤ μ (7 * s + 4) ∧ μ (7 * s + 4) ≤ 20) ∧ (0 ≤ μ (7 * s + 6) ∧ μ (7 * s + 6) ≤ 99)
def GdY (μ : Nat → Int) (n c : Nat) : Prop := (∀ s, s < n → (0 ≤ μ (7 * s) ∧ μ (7 * s) ≤ 20) ∧ (0 ≤ μ (7 * s + 1) ∧ μ (7 * s + 1) ≤ 20) ∧ (0 ≤ μ (7 * s + 5) ∧ μ (7 * s + 5) ≤ 99)) ∧ (0 ≤ μ 28 ∧ μ 28 ≤ 50) ∧ (0 ≤ μ 29 ∧ μ 29 ≤ 50) ∧ (0 ≤ μ 30 ∧ μ 30 ≤ 100) ∧ (0 ≤ μ 31 ∧ μ 31 ≤ 99) ∧ (-32000 ≤ μ 33 ∧ μ 33 ≤ 24000 * c)
def Gd (μ : Nat → Int) (n c : Nat) : Prop := (1 ≤ n ∧ n ≤ 4 ∧ c ≤ 120) ∧ GdT μ n ∧ GdY μ n c
theorem mul_bd {x y a b : Int} (h1 : 0 ≤ x) (h2 : x ≤ a) (h3 : 0 ≤ y) (h4 : y ≤ b) : 0 ≤ x * y ∧ x * y ≤ a * b :=
  ⟨Int.mul_nonneg h1 h3, Int.mul_le_mul h2 h4 h3 (Int.le_trans h1 h2)⟩
theorem bo_bd {μ : Nat → Int} {n : Nat} (g : GdT μ n) {s : Nat} (hs : s < n) {p : Int} (h0 : 0 ≤ p) : 0 ≤ bo μ s p ∧ bo μ s p ≤ 200 := by
  obtain ⟨a, b, c, d⟩ := g s hs
  have h := Int.mul_nonneg b.1 h0
  unfold bo
  omega
theorem pr_bd {μ : Nat → Int} {n : Nat} (g : GdT μ n) {s : Nat} (hs : s < n) {p : Int} (h0 : 0 ≤ p) (h1 : p ≤ 20) : -4000 ≤ pr μ s p ∧ pr μ s p ≤ 4000 := by
  obtain ⟨a, b, c, d⟩ := g s hs
  obtain ⟨e1, e2⟩ := bo_bd g hs h0
  unfold pr
  rcases Int.le_total 0 (p - μ (7 * s + 4)) with q | q
  · have := mul_bd e1 e2 q (show p - μ (7 * s + 4) ≤ 20 by omega)
    omega
  · have := mul_bd e1 e2 (show 0 ≤ -(p - μ (7 * s + 4)) by omega) (show -(p - μ (7 * s + 4)) ≤ 20 by omega)
    rw [Int.mul_neg] at this
    omega
theorem go_bd {μ : Nat → Int} {n : Nat} (g : GdT μ n) {s : Nat} (hs : s < n) {p : Nat} (h1 : p ≤ 20) : -4000 ≤ go μ s p ∧ go μ s p ≤ 8000 := by
  have a := pr_bd g hs (p := p) (by omega) (by omega)
  have b := sz_bd (n := 20 - p) (f := fun j => bo μ s ((p : Int) + 1 + j)) (a := 0) (b := 200) (fun i _ => bo_bd g hs (by omega))
  unfold go
  have : ((20 - p : Nat) : Int) ≤ 20 := by omega
  omega
theorem we_bd {μ : Nat → Int} {n c : Nat} (g : Gd μ n c) {s : Nat} (hs : s < n) : 0 ≤ we μ s ∧ we μ s ≤ 200 := bo_bd g.2.1 hs (g.2.2.1 s hs).1.1
theorem ba_bd {μ : Nat → Int} {n c : Nat} (g : Gd μ n c) : 0 ≤ ba μ n ∧ ba μ n ≤ 16000 := by
  have := sz_bd (n := n) (f := fun s => μ (7 * s) * we μ s) (a := 0) (b := 4000) (fun i hi => mul_bd (g.2.2.1 i hi).1.1 (g.2.2.1 i hi).1.2 (we_bd g hi).1 (we_bd g hi).2)
  have h4 : (n : Int) ≤ 4 := by have := g.1.2.1; omega
  unfold ba
  omega
theorem sp_bd {μ : Nat → Int} {n c : Nat} (g : Gd μ n c) : 0 ≤ sp μ n ∧ sp μ n ≤ 16000 := by
  have := sz_bd (n := n) (f := fun s => μ (7 * s + 1) * we μ s) (a := 0) (b := 4000) (fun i hi => mul_bd (g.2.2.1 i hi).2.1.1 (g.2.2.1 i hi).2.1.2 (we_bd g hi).1 (we_bd g hi).2)
  have h4 : (n : Int) ≤ 4 := by have := g.1.2.1; omega
  unfold sp
  omega
theorem du1_bd {μ : Nat → Int} {n c : Nat} (g : Gd μ n c) {s : Nat} (hs : s < n) : 0 ≤ du1 μ s ∧ du1 μ s ≤ 9801 := by
  obtain ⟨-, -, -, d⟩ := g.2.1 s hs
  obtain ⟨-, -, e⟩ := g.2.2.1 s hs
  have f := g.2.2.2.2.2.2.1
  exact mul_bd (a := 99) (b := 99) (by omega) (by omega) f.1 f.2
theorem du_bd {μ : Nat → Int} {n c : Nat} (g : Gd μ n c) : 0 ≤ du μ n ∧ du μ n ≤ 39204 := by
  have := sz_bd (n := n) (f := fun s => du1 μ s) (a := 0) (b := 9801) (fun i hi => du1_bd g hi)
  have h4 : (n : Int) ≤ 4 := by have := g.1.2.1; omega
  unfold du
  omega
theorem ra_bd {μ : Nat → Int} {n c : Nat} (g : Gd μ n c) : 50 ≤ ra μ ∧ ra μ ≤ 150 := by
  have a := g.2.2.2.1
  have b := g.2.2.2.2.1
  unfold ra
  omega
theorem rb_bd {μ : Nat → Int} {n c : Nat} (g : Gd μ n c) : 0 ≤ ra μ * ba μ n ∧ ra μ * ba μ n ≤ 2400000 := by
  have a := ra_bd g
  have b := ba_bd g
  exact mul_bd (a := 150) (b := 16000) (by omega) a.2 b.1 b.2
theorem rd_bd {μ : Nat → Int} {n c : Nat} (g : Gd μ n c) : 0 ≤ (ra μ * ba μ n).tdiv 100 ∧ (ra μ * ba μ n).tdiv 100 ≤ 24000 := by
  have a := rb_bd g
  rw [Int.tdiv_eq_ediv_of_nonneg a.1]
  omega
theorem al_bd {μ : Nat → Int} {n c : Nat} (g : Gd μ n c) {d : Int} (hd : 0 ≤ d) : 0 ≤ alw μ n d ∧ alw μ n d ≤ 24000 * (c + 1) := by
  have a := rd_bd g
  have b := g.2.2.2.2.2.2.2
  unfold alw
  omega
/-! THE REFERENCE'S FUNCTIONS -/
def MS (σ : Sto) (μ : Nat → Int) (n : Nat) : Prop := (∀ k, k < 34 → σ.1 2 k = zI (μ k)) ∧ σ.1 0 22 = zI n
theorem m_of {σ : Sto} {μ : Nat → Int} {n : Nat} (h : MS σ μ n) {s w : Nat} (hs : s < 4) (hw : w < 7) : F_X12_of σ (zI s) (zI w) = some (zI (μ (7 * s + w))) := by
  unfold F_X12_of
  simp (disch := omega) only [zl7, zI_mul, zI_add, zI_ib, zI_ix]
  rw [if_pos (by omega), show ((7 : Int) * s + w).toNat = 7 * s + w by omega, h.1 _ (by omega)]
theorem m_of0 {σ : Sto} {μ : Nat → Int} {n : Nat} (h : MS σ μ n) {s : Nat} (hs : s < 4) : F_X12_of σ (zI s) 0 = some (zI (μ (7 * s))) := m_of (w := 0) h hs (by omega)
theorem m_of1 {σ : Sto} {μ : Nat → Int} {n : Nat} (h : MS σ μ n) {s : Nat} (hs : s < 4) : F_X12_of σ (zI s) 1 = some (zI (μ (7 * s + 1))) := m_of (w := 1) h hs (by omega)
theorem m_of2 {σ : Sto} {μ : Nat → Int} {n : Nat} (h : MS σ μ n) {s : Nat} (hs : s < 4) : F_X12_of σ (zI s) 2 = some (zI (μ (7 * s + 2))) := m_of (w := 2) h hs (by omega)
theorem m_of3 {σ : Sto} {μ : Nat → Int} {n : Nat} (h : MS σ μ n) {s : Nat} (hs : s < 4) : F_X12_of σ (zI s) 3 = some (zI (μ (7 * s + 3))) := m_of (w := 3) h hs (by omega)
theorem m_of4 {σ : Sto} {μ : Nat → Int} {n : Nat} (h : MS σ μ n) {s : Nat} (hs : s < 4) : F_X12_of σ (zI s) 4 = some (zI (μ (7 * s + 4))) := m_of (w := 4) h hs (by omega)
theorem m_of5 {σ : Sto} {μ : Nat → Int} {n : Nat} (h : MS σ μ n) {s : Nat} (hs : s < 4) : F_X12_of σ (zI s) 5 = some (zI (μ (7 * s + 5))) := m_of (w := 5) h hs (by omega)
theorem m_of6 {σ : Sto} {μ : Nat → Int} {n : Nat} (h : MS σ μ n) {s : Nat} (hs : s < 4) : F_X12_of σ (zI s) 6 = some (zI (μ (7 * s + 6))) := m_of (w := 6) h hs (by omega)
theorem m_bought {σ : Sto} {μ : Nat → Int} {n : Nat} (h : MS σ μ n) (g : GdT μ n) (h4 : n ≤ 4) {s : Nat} {p : Int} (hs : s < n) (h0 : 0 ≤ p) (h1 : p ≤ 20) : F_X12_boughtAt σ (zI s) (zI p) = some (zI (bo μ s p)) := by
  obtain ⟨a, b, c, d⟩ := g s hs
  have hm := mul_bd b.1 b.2 h0 h1
  unfold F_X12_boughtAt
  rw [m_of2 h (by omega), m_of3 h (by omega)]
  simp only [Option.bind_some, zl0, zI_mul, zI_sub]
  simp (disch := omega) only [zI_le]
  unfold bo
  split
  · rw [show max 0 (μ (7 * s + 2) - μ (7 * s + 3) * p) = 0 by omega]
  · rw [show max 0 (μ (7 * s + 2) - μ (7 * s + 3) * p) = μ (7 * s + 2) - μ (7 * s + 3) * p by omega]
theorem m_profit {σ : Sto} {μ : Nat → Int} {n : Nat} (h : MS σ μ n) (g : GdT μ n) (h4 : n ≤ 4) {s : Nat} {p : Int} (hs : s < n) (h0 : 0 ≤ p) (h1 : p ≤ 20) : F_X12_profitAt σ (zI s) (zI p) = some (zI (pr μ s p)) := by
  unfold F_X12_profitAt
  rw [m_of4 h (by omega), m_bought h g h4 hs h0 h1]
  simp only [Option.bind_some, zI_mul, zI_sub]
  rfl
theorem sz_head (f : Nat → Int) : ∀ (m : Nat), f 0 + sz m (fun j => f (j + 1)) = sz (m + 1) f
  | 0 => by simp [sz]
  | m + 1 => by rw [sz, ← Int.add_assoc, sz_head f m]; rfl
theorem m_good {σ : Sto} {μ : Nat → Int} {n : Nat} (h : MS σ μ n) (g : GdT μ n) (h4 : n ≤ 4) {s p : Nat} (hs : s < n) (h1 : p ≤ 20) : F_X12_goodAt σ (zI s) (zI p) = some (zI (go μ s p)) := by
  unfold F_X12_goodAt
  rw [m_profit h g h4 hs (p := p) (by omega) (by omega), Option.bind_some, zl1, zI_add]
  have key : ∀ (d k : Nat) (acc : Int), d ≤ 20 - p → d < k → F_X12_goodAt_12 k σ (zI s) (zI acc) (zI (21 - d)) = some (zI (acc + sz d (fun j => bo μ s (21 - d + j)))) := by
    intro d
    induction d with
    | zero =>
      intro k acc hd hk
      obtain ⟨k, rfl⟩ : ∃ j, k = j + 1 := ⟨k - 1, by omega⟩
      rw [F_X12_goodAt_12, zl20]
      simp (disch := omega) only [zI_lt]
      rw [if_pos (by omega)]
      simp [sz]
    | succ d ih =>
      intro k acc hd hk
      obtain ⟨k, rfl⟩ : ∃ j, k = j + 1 := ⟨k - 1, by omega⟩
      rw [F_X12_goodAt_12, zl20]
      simp (disch := omega) only [zI_lt]
      rw [if_neg (by omega), m_bought h g h4 hs (by omega) (by omega), Option.bind_some, zl1, zI_add, zI_add]
      have e : (21 - ((d + 1 : Nat) : Int) + 1) = 21 - (d : Int) := by omega
      rw [e, ih k _ (by omega) (by omega)]
      congr 2
      rw [← sz_head (fun j => bo μ s (21 - ((d + 1 : Nat) : Int) + j)) d, Int.add_assoc]
      congr 1
      congr 1
      · simp
      · refine sz_cg (fun i _ => ?_)
        congr 1
        push_cast
        omega
  have hk := key (20 - p) FU (pr μ s p) (Nat.le_refl _) (FU_lt (by omega))
  rw [show (21 - ((20 - p : Nat) : Int)) = (p : Int) + 1 by omega] at hk
  rw [hk]
  rfl
theorem m_weight {σ : Sto} {μ : Nat → Int} {n c : Nat} (h : MS σ μ n) (g : Gd μ n c) {s : Nat} (hs : s < n) : F_X12_weight σ (zI s) = some (zI (we μ s)) := by
  have h4 := g.1.2.1
  unfold F_X12_weight
  rw [m_of0 h (by omega), Option.bind_some, m_bought h g.2.1 h4 hs (g.2.2.1 s hs).1.1 (g.2.2.1 s hs).1.2, Option.bind_some]
  rfl
theorem m_rate {σ : Sto} {μ : Nat → Int} {n : Nat} (h : MS σ μ n) : F_X12_rate σ = some (zI (ra μ)) := by
  unfold F_X12_rate
  rw [show ix 28 = 28 from by decide, show ix 29 = 29 from by decide, h.1 28 (by omega), h.1 29 (by omega), zl100, zI_add, zI_sub]
  rfl
theorem m_base {σ : Sto} {μ : Nat → Int} {n c : Nat} (h : MS σ μ n) (g : Gd μ n c) : F_X12_base σ = some (zI (ba μ n)) := by
  have h4 := g.1.2.1
  rw [F_X12_base, zl0]
  refine sum_loop (L := fun k a i => F_X12_base_4 k σ a i) (R := fun z => some (zI z)) (f := fun s => μ (7 * s) * we μ s) (fun k acc i hi _ => ?_) (fun k => ?_) FU (FU_lt (by omega))
  · simp only [F_X12_base_4, h.2]
    simp (disch := omega) only [zI_le]
    rw [if_neg (by omega), m_of0 h (by omega), m_weight h g hi]
    simp only [Option.bind_some, zl1, zI_mul, zI_add]
  · simp only [F_X12_base_4, h.2]
    rw [if_pos (Int32.le_refl _)]
theorem m_spent {σ : Sto} {μ : Nat → Int} {n c : Nat} (h : MS σ μ n) (g : Gd μ n c) : F_X12_spent σ = some (zI (sp μ n)) := by
  have h4 := g.1.2.1
  rw [F_X12_spent, zl0]
  refine sum_loop (L := fun k a i => F_X12_spent_4 k σ a i) (R := fun z => some (zI z)) (f := fun s => μ (7 * s + 1) * we μ s) (fun k acc i hi _ => ?_) (fun k => ?_) FU (FU_lt (by omega))
  · simp only [F_X12_spent_4, h.2]
    simp (disch := omega) only [zI_le]
    rw [if_neg (by omega), m_of1 h (by omega), m_weight h g hi]
    simp only [Option.bind_some, zl1, zI_mul, zI_add]
  · simp only [F_X12_spent_4, h.2]
    rw [if_pos (Int32.le_refl _)]
theorem m_dues {σ : Sto} {μ : Nat → Int} {n c : Nat} (h : MS σ μ n) (g : Gd μ n c) : F_X12_dues σ = some (zI (du μ n)) := by
  have h4 := g.1.2.1
  rw [F_X12_dues, zl0]
  refine sum_loop (L := fun k a i => F_X12_dues_4 k σ a i) (R := fun z => some (zI z)) (f := fun s => du1 μ s) (fun k acc i hi _ => ?_) (fun k => ?_) FU (FU_lt (by omega))
  · obtain ⟨-, -, -, d⟩ := g.2.1 i hi
    obtain ⟨-, -, e⟩ := g.2.2.1 i hi
    simp only [F_X12_dues_4, h.2]
    simp (disch := omega) only [zI_le]
    rw [if_neg (by omega), m_of5 h (by omega), m_of6 h (by omega)]
    simp only [Option.bind_some]
    rw [show ix 31 = 31 from by decide, h.1 31 (by omega)]
    simp (disch := omega) only [zI_le]
    unfold du1
    split
    · rw [show max 0 (μ (7 * i + 6) - μ (7 * i + 5)) = 0 by omega, Int.zero_mul, zl0, zl1, zI_add, zI_add]
    · rw [show max 0 (μ (7 * i + 6) - μ (7 * i + 5)) = μ (7 * i + 6) - μ (7 * i + 5) by omega, zl1]
      simp only [sw, zI_add, zI_sub, zI_mul]
  · simp only [F_X12_dues_4, h.2]
    rw [if_pos (Int32.le_refl _)]
theorem m_allowed {σ : Sto} {μ : Nat → Int} {n c : Nat} (h : MS σ μ n) (g : Gd μ n c) : F_X12_allowed σ = some (zI (al μ n)) := by
  have a := rb_bd g
  have b := rd_bd g
  have d := du_bd g
  have e := g.2.2.2.2.2.2.2
  have hc := g.1.2.2
  unfold F_X12_allowed
  rw [m_rate h, m_base h g, m_dues h g]
  simp only [Option.bind_some, sw]
  rw [show ix 33 = 33 from by decide, h.1 33 (by omega), zI_mul, zl100, zI_div (by omega) (by omega) (by omega) (by omega), zI_add, zI_sub, zl0]
  simp (disch := omega) only [zI_le]
  unfold al alw
  split
  · rw [show max 0 ((ra μ * ba μ n).tdiv 100 + μ 33 - du μ n) = 0 by omega]
  · rw [show max 0 ((ra μ * ba μ n).tdiv 100 + μ 33 - du μ n) = (ra μ * ba μ n).tdiv 100 + μ 33 - du μ n by omega]
theorem al_bd0 {μ : Nat → Int} {n c : Nat} (g : Gd μ n c) : 0 ≤ al μ n ∧ al μ n ≤ 3000000 := by
  have b := al_bd g (du_bd g).1
  have hc := g.1.2.2
  unfold al
  omega
theorem m_isKept {σ : Sto} {μ : Nat → Int} {n c : Nat} (h : MS σ μ n) (g : Gd μ n c) : F_X12_isKept σ = some (if sp μ n ≤ al μ n then 1 else 0) := by
  have a := sp_bd g
  have b := al_bd0 g
  unfold F_X12_isKept
  rw [m_spent h g, m_allowed h g]
  simp only [Option.bind_some]
  simp (disch := omega) only [zI_lt]
  by_cases q : sp μ n ≤ al μ n
  · rw [if_neg (by omega), if_pos q]
  · rw [if_pos (by omega), if_neg q]
theorem m_off {σ : Sto} {μ : Nat → Int} {n c : Nat} (h : MS σ μ n) (g : Gd μ n c) {w : Nat} (hw : w = 0 ∨ w = 1) : F_X12_off σ (zI w) = some (zI (of1 μ n w)) := by
  have h4 := g.1.2.1
  rw [F_X12_off, zl0]
  refine sum_loop (L := fun k a i => F_X12_off_4 k σ (zI w) a i) (R := fun z => some (zI z)) (f := fun s => if μ (7 * s + w) ≤ μ (7 * s + 4) then μ (7 * s + 4) - μ (7 * s + w) else μ (7 * s + w) - μ (7 * s + 4)) (fun k acc i hi _ => ?_) (fun k => ?_) FU (FU_lt (by omega))
  · obtain ⟨-, -, d, -⟩ := g.2.1 i hi
    obtain ⟨e0, e1, -⟩ := g.2.2.1 i hi
    have ew : 0 ≤ μ (7 * i + w) ∧ μ (7 * i + w) ≤ 20 := by rcases hw with rfl | rfl <;> assumption
    simp only [F_X12_off_4, h.2]
    simp (disch := omega) only [zI_le]
    rw [if_neg (by omega), m_of h (by omega) (by omega), m_of4 h (by omega)]
    simp only [Option.bind_some]
    simp (disch := omega) only [zI_le]
    split
    · simp only [zl1, zI_add, zI_sub]
    · simp only [zl1, zI_add, zI_sub]
  · simp only [F_X12_off_4, h.2]
    rw [if_pos (Int32.le_refl _)]
theorem m_allP {σ : Sto} {μ : Nat → Int} {n c : Nat} (h : MS σ μ n) (g : Gd μ n c) : F_X12_all σ 0 = some (zI (allP μ n)) := by
  have h4 := g.1.2.1
  rw [F_X12_all]
  show F_X12_all_4 FU σ 0 (zI 0) (zI 0) = _
  refine (sum_loop (L := fun k a i => F_X12_all_4 k σ 0 a i) (R := fun z => some (zI z)) (f := fun s => pr μ s (μ (7 * s + 1))) (fun k acc i hi _ => ?_) (fun k => ?_) FU (FU_lt (by omega)))
  · obtain ⟨e0, e1, -⟩ := g.2.2.1 i hi
    simp only [F_X12_all_4, h.2]
    simp (disch := omega) only [zI_le]
    rw [if_neg (by omega), if_pos trivial, m_of1 h (by omega), Option.bind_some, m_profit h g.2.1 h4 hi e1.1 e1.2, Option.bind_some, zl1, zI_add, zI_add]
  · simp only [F_X12_all_4, h.2]
    rw [if_pos (Int32.le_refl _)]
theorem m_allG {σ : Sto} {μ : Nat → Int} {n c : Nat} (h : MS σ μ n) (g : Gd μ n c) : F_X12_all σ 1 = some (zI (allG μ n)) := by
  have h4 := g.1.2.1
  rw [F_X12_all]
  show F_X12_all_4 FU σ 1 (zI 0) (zI 0) = _
  refine (sum_loop (L := fun k a i => F_X12_all_4 k σ 1 a i) (R := fun z => some (zI z)) (f := fun s => go μ s (μ (7 * s + 1)).toNat) (fun k acc i hi _ => ?_) (fun k => ?_) FU (FU_lt (by omega)))
  · obtain ⟨e0, e1, -⟩ := g.2.2.1 i hi
    have ep : μ (7 * i + 1) = ((μ (7 * i + 1)).toNat : Int) := by omega
    simp only [F_X12_all_4, h.2]
    simp (disch := omega) only [zI_le]
    rw [if_neg (by omega), if_neg (by decide), m_of1 h (by omega), Option.bind_some]
    have := m_good h g.2.1 h4 hi (p := (μ (7 * i + 1)).toNat) (by omega)
    rw [← ep] at this
    rw [this, Option.bind_some, zl1, zI_add, zI_add]
  · simp only [F_X12_all_4, h.2]
    rw [if_pos (Int32.le_refl _)]
