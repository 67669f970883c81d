/-! THE CLASS'S FUNCTIONS OF A TEXT AND OF A YEAR -/
def yC (y : Nat) : Prop := (shC y).1 = 10 ∧ shC (y + 1) = (20, 4) ∧ shC (y + 2) = (20, 4) ∧ shC (y + 3) = (20, 4) ∧ shC (y + 4) = (20, 4)
def tC (t : Nat) : Prop := (shC t).1 = 9 ∧ shC (t + 5) = (20, 84) ∧ shC (t + 6) = (20, 84) ∧ shC (t + 7) = (20, 84)
def YR (σ : Sto) (y : Nat) (μ : Nat → Int) (n : Nat) : Prop := (∀ s, s < n → σ.1 (y + 1) s = zI (μ (7 * s)) ∧ σ.1 (y + 2) s = zI (μ (7 * s + 1)) ∧ σ.1 (y + 3) s = zI (μ (7 * s + 5))) ∧ (∀ r, r < 4 → σ.1 (y + 4) r = zI (μ (28 + r))) ∧ σ.1 y 1 = zI (μ 33)
def TV (σ : Sto) (t : Nat) (μ : Nat → Int) (n : Nat) : Prop := σ.1 t 0 = zI n ∧ ∀ s, s < n → σ.1 (t + 2) (4 + s) = zI (μ (7 * s + 2)) ∧ σ.1 (t + 2) (8 + s) = zI (μ (7 * s + 3)) ∧ σ.1 (t + 2) (12 + s) = zI (μ (7 * s + 4)) ∧ σ.1 (t + 2) (20 + s) = zI (μ (7 * s + 6))
def TR (σ : Sto) (t : Nat) (μ : Nat → Int) (n : Nat) : Prop := TV σ t μ n ∧ ∀ s, s < n → ∀ p, p ≤ 20 → σ.1 (t + 5) (21 * s + p) = zI (bo μ s p) ∧ σ.1 (t + 6) (21 * s + p) = zI (pr μ s p) ∧ σ.1 (t + 7) (21 * s + p) = zI (go μ s p)
theorem yC_3 : yC 3 := by unfold yC; decide
theorem tC_t {t : Nat} (h : t = 102 ∨ t = 110) : tC t := by rcases h with rfl | rfl <;> (unfold tC; decide)
theorem t_together {σ : Sto} {t a1 a2 n : Nat} {p : Nat → Int} {B : Nat → Nat → Int} (ht : (shC t).1 = 9) (h1 : shC a1 = (20, 84)) (h2 : shC a2 = (20, 4)) (hn : σ.1 t 0 = zI n) (hn4 : n ≤ 4) (hp : ∀ s, s < n → σ.1 a2 s = zI (p s) ∧ 0 ≤ p s ∧ p s ≤ 20) (hB : ∀ s, s < n → ∀ q, q ≤ 20 → σ.1 a1 (21 * s + q) = zI (B s q)) :
    F_X9_together σ t a1 a2 = some (zI (sz n (fun s => B s (p s).toNat))) := by
  rw [F_X9_together, zl0]
  refine sum_loop (L := fun k a i => F_X9_together_5 k σ t a1 a2 a i) (R := fun z => some (zI z)) (f := fun s => B s (p s).toNat) (fun k acc i hi _ => ?_) (fun k => ?_) FU (FU_lt (by omega))
  · obtain ⟨e1, e2, e3⟩ := hp i hi
    have hb := hB i hi (p i).toNat (by omega)
    simp only [F_X9_together_5, ht, h1, h2, hn, sw, if_true]
    simp (disch := omega) only [zl21, zl1, zI_le, zI_ix, zI_ib, Int.toNat_natCast, e1, zI_mul, zI_add]
    have e4 : ((i : Int) * 21 + p i).toNat = 21 * i + (p i).toNat := by omega
    rw [if_neg (by omega), if_pos (by omega), if_pos (by omega), e4, hb, zI_add]
  · simp only [F_X9_together_5, ht, hn, if_true]
    rw [if_pos (Int32.le_refl _)]
theorem t_value {σ : Sto} {t : Nat} (ht : (shC t).1 = 9) {v s : Nat} (hv : v < 6) (hs : s < 4) : F_X9_valueOf σ t (zI v) (zI s) = some (σ.1 (t + 2) (4 * v + s)) := by
  unfold F_X9_valueOf
  rw [if_pos ht, zl4, zI_mul, zI_add]
  simp (disch := omega) only [zI_ib, zI_ix]
  rw [if_pos (by omega), show ((v : Int) * 4 + s).toNat = 4 * v + s by omega]
theorem t_v1 {σ : Sto} {t n : Nat} {μ : Nat → Int} (ht : (shC t).1 = 9) (h : TV σ t μ n) (h4 : n ≤ 4) {s : Nat} (hs : s < n) : F_X9_valueOf σ t 1 (zI s) = some (zI (μ (7 * s + 2))) := by
  have := t_value (σ := σ) ht (v := 1) (s := s) (by omega) (by omega)
  rw [show zI ((1 : Nat) : Int) = 1 from by decide] at this
  rw [this]
  exact congrArg some (h.2 s hs).1
theorem t_v2 {σ : Sto} {t n : Nat} {μ : Nat → Int} (ht : (shC t).1 = 9) (h : TV σ t μ n) (h4 : n ≤ 4) {s : Nat} (hs : s < n) : F_X9_valueOf σ t 2 (zI s) = some (zI (μ (7 * s + 3))) := by
  have := t_value (σ := σ) ht (v := 2) (s := s) (by omega) (by omega)
  rw [show zI ((2 : Nat) : Int) = 2 from by decide] at this
  rw [this]
  exact congrArg some (h.2 s hs).2.1
theorem t_v3 {σ : Sto} {t n : Nat} {μ : Nat → Int} (ht : (shC t).1 = 9) (h : TV σ t μ n) (h4 : n ≤ 4) {s : Nat} (hs : s < n) : F_X9_valueOf σ t 3 (zI s) = some (zI (μ (7 * s + 4))) := by
  have := t_value (σ := σ) ht (v := 3) (s := s) (by omega) (by omega)
  rw [show zI ((3 : Nat) : Int) = 3 from by decide] at this
  rw [this]
  exact congrArg some (h.2 s hs).2.2.1
theorem t_v5 {σ : Sto} {t n : Nat} {μ : Nat → Int} (ht : (shC t).1 = 9) (h : TV σ t μ n) (h4 : n ≤ 4) {s : Nat} (hs : s < n) : F_X9_valueOf σ t 5 (zI s) = some (zI (μ (7 * s + 6))) := by
  have := t_value (σ := σ) ht (v := 5) (s := s) (by omega) (by omega)
  rw [show zI ((5 : Nat) : Int) = 5 from by decide] at this
  rw [this]
  exact congrArg some (h.2 s hs).2.2.2
theorem t_off {σ : Sto} {t a n : Nat} {μ p : Nat → Int} (ht : (shC t).1 = 9) (h2 : shC a = (20, 4)) (h : TV σ t μ n) (g : GdT μ n) (h4 : n ≤ 4) (hp : ∀ s, s < n → σ.1 a s = zI (p s) ∧ 0 ≤ p s ∧ p s ≤ 20) :
    F_X9_off σ t a = some (zI (sz n (fun s => if p s ≤ μ (7 * s + 4) then μ (7 * s + 4) - p s else p s - μ (7 * s + 4)))) := by
  rw [F_X9_off, zl0]
  refine sum_loop (L := fun k c i => F_X9_off_4 k σ t a c i) (R := fun z => some (zI z)) (f := fun s => if p s ≤ μ (7 * s + 4) then μ (7 * s + 4) - p s else p s - μ (7 * s + 4)) (fun k acc i hi _ => ?_) (fun k => ?_) FU (FU_lt (by omega))
  · obtain ⟨e1, e2, e3⟩ := hp i hi
    obtain ⟨-, -, d, -⟩ := g i hi
    simp only [F_X9_off_4, ht, h2, h.1, sw, if_true, t_v3 ht h h4 hi, Option.bind_some]
    simp (disch := omega) only [zl0, zl1, zI_le, zI_ix, zI_ib, Int.toNat_natCast, e1, zI_sub, zI_add]
    rw [if_neg (by omega), if_pos (by omega)]
    by_cases q : p i ≤ μ (7 * i + 4)
    · rw [if_pos q]
      by_cases q2 : 0 ≤ p i - μ (7 * i + 4)
      · rw [if_pos q2, zI_add]; congr 2; omega
      · rw [if_neg q2, zI_add]; congr 2; omega
    · rw [if_neg q, if_pos (by omega), zI_add]
  · simp only [F_X9_off_4, ht, h.1, if_true]
    rw [if_pos (Int32.le_refl _)]
theorem y_rate {σ : Sto} {y n : Nat} {μ : Nat → Int} (hy : yC y) (h : YR σ y μ n) : F_X10_rate σ y = some (zI (ra μ)) := by
  unfold F_X10_rate
  rw [if_pos hy.1, show ix 0 = 0 from by decide, show ix 1 = 1 from by decide, h.2.1 0 (by omega), h.2.1 1 (by omega), zl100, zI_add, zI_sub]
  rfl
theorem y_pr {σ : Sto} {y n c : Nat} {μ : Nat → Int} (h : YR σ y μ n) (g : Gd μ n c) : ∀ s, s < n → σ.1 (y + 1) s = zI (μ (7 * s)) ∧ 0 ≤ μ (7 * s) ∧ μ (7 * s) ≤ 20 :=
  fun s hs => ⟨(h.1 s hs).1, (g.2.2.1 s hs).1⟩
theorem y_fr {σ : Sto} {y n c : Nat} {μ : Nat → Int} (h : YR σ y μ n) (g : Gd μ n c) : ∀ s, s < n → σ.1 (y + 2) s = zI (μ (7 * s + 1)) ∧ 0 ≤ μ (7 * s + 1) ∧ μ (7 * s + 1) ≤ 20 :=
  fun s hs => ⟨(h.1 s hs).2.1, (g.2.2.1 s hs).2.1⟩
theorem t_bo {σ : Sto} {t n : Nat} {μ : Nat → Int} (h : TR σ t μ n) : ∀ s, s < n → ∀ q, q ≤ 20 → σ.1 (t + 5) (21 * s + q) = zI (bo μ s q) := fun s hs q hq => (h.2 s hs q hq).1
theorem t_pr {σ : Sto} {t n : Nat} {μ : Nat → Int} (h : TR σ t μ n) : ∀ s, s < n → ∀ q, q ≤ 20 → σ.1 (t + 6) (21 * s + q) = zI (pr μ s q) := fun s hs q hq => (h.2 s hs q hq).2.1
theorem t_go {σ : Sto} {t n : Nat} {μ : Nat → Int} (h : TR σ t μ n) : ∀ s, s < n → ∀ q, q ≤ 20 → σ.1 (t + 7) (21 * s + q) = zI (go μ s q) := fun s hs q hq => (h.2 s hs q hq).2.2
theorem we_nat {μ : Nat → Int} {n c : Nat} (g : Gd μ n c) {s : Nat} (hs : s < n) : bo μ s ((μ (7 * s)).toNat : Int) = we μ s := by
  have := (g.2.2.1 s hs).1
  unfold we
  rw [show ((μ (7 * s)).toNat : Int) = μ (7 * s) by omega]
theorem y_base {σ : Sto} {y t n c : Nat} {μ : Nat → Int} (hy : yC y) (ht : tC t) (h : YR σ y μ n) (k : TR σ t μ n) (g : Gd μ n c) : F_X9_costing σ t (y + 1) (y + 1) = some (zI (ba μ n)) := by
  rw [t_costing ht.1 hy.2.1 hy.2.1 k.1.1 g.1.2.1 (fun s hs => (h.1 s hs).1) (y_pr h g) (t_bo k)]
  congr 2
  exact sz_cg (fun s hs => by rw [we_nat g hs])
theorem y_spent {σ : Sto} {y t n c : Nat} {μ : Nat → Int} (hy : yC y) (ht : tC t) (h : YR σ y μ n) (k : TR σ t μ n) (g : Gd μ n c) : F_X10_spent σ y t = some (zI (sp μ n)) := by
  unfold F_X10_spent
  rw [if_pos hy.1, if_pos ht.1, t_costing ht.1 hy.2.2.1 hy.2.1 k.1.1 g.1.2.1 (fun s hs => (h.1 s hs).2.1) (y_pr h g) (t_bo k), Option.bind_some]
  congr 2
  exact sz_cg (fun s hs => by rw [we_nat g hs])
theorem y_weight {σ : Sto} {y t n c : Nat} {μ : Nat → Int} (hy : yC y) (ht : tC t) (h : YR σ y μ n) (k : TR σ t μ n) (g : Gd μ n c) {s : Nat} (hs : s < n) : F_X10_weight σ y t (zI s) = some (zI (we μ s)) := by
  have h4 := g.1.2.1
  obtain ⟨e1, e2, e3⟩ := y_pr h g s hs
  have hb := t_bo k s hs (μ (7 * s)).toNat (by omega)
  unfold F_X10_weight
  rw [if_pos hy.1, if_pos ht.1]
  simp (disch := omega) only [zI_ib, zI_ix, Int.toNat_natCast, e1, zl21, zI_mul, zI_add]
  rw [if_pos (by omega), if_pos (by omega), show ((s : Int) * 21 + μ (7 * s)).toNat = 21 * s + (μ (7 * s)).toNat by omega, hb, we_nat g hs]
def wsm (μ : Nat → Int) (n : Nat) : Int := sz n (fun s => we μ s)
theorem y_weights {σ : Sto} {y t n c : Nat} {μ : Nat → Int} (hy : yC y) (ht : tC t) (h : YR σ y μ n) (k : TR σ t μ n) (g : Gd μ n c) : F_X10_weights σ y t = some (zI (wsm μ n)) := by
  unfold F_X10_weights
  rw [if_pos hy.1, if_pos ht.1, t_together ht.1 ht.2.1 hy.2.1 k.1.1 g.1.2.1 (y_pr h g) (t_bo k), Option.bind_some]
  congr 2
  exact sz_cg (fun s hs => by rw [we_nat g hs])
theorem y_dues1 {σ : Sto} {y t n c : Nat} {μ : Nat → Int} (hy : yC y) (ht : tC t) (h : YR σ y μ n) (k : TV σ t μ n) (g : Gd μ n c) {s : Nat} (hs : s < n) : F_X10_duesOf σ y t (zI s) = some (zI (du1 μ s)) := by
  have h4 := g.1.2.1
  obtain ⟨-, -, -, d⟩ := g.2.1 s hs
  obtain ⟨-, -, e⟩ := g.2.2.1 s hs
  unfold F_X10_duesOf
  rw [if_pos ht.1, t_v5 ht.1 k h4 hs, Option.bind_some, if_pos hy.1, show ix 3 = 3 from by decide, h.2.1 3 (by omega)]
  simp (disch := omega) only [zI_ib, zI_ix, Int.toNat_natCast, (h.1 s hs).2.2, zI_sub, zl0, zI_lt]
  rw [if_pos (by omega)]
  unfold du1
  split
  · rw [show max 0 (μ (7 * s + 6) - μ (7 * s + 5)) = μ (7 * s + 6) - μ (7 * s + 5) by omega, zI_mul]
  · rw [show max 0 (μ (7 * s + 6) - μ (7 * s + 5)) = 0 by omega, zI_mul]
theorem y_dues {σ : Sto} {y t n c : Nat} {μ : Nat → Int} (hy : yC y) (ht : tC t) (h : YR σ y μ n) (k : TV σ t μ n) (g : Gd μ n c) : F_X10_dues σ y t = some (zI (du μ n)) := by
  have h4 := g.1.2.1
  rw [F_X10_dues, zl0]
  refine sum_loop (L := fun k a i => F_X10_dues_4 k σ y t a i) (R := fun z => some (zI z)) (f := fun s => du1 μ s) (fun q acc i hi _ => ?_) (fun q => ?_) FU (FU_lt (by omega))
  · simp only [F_X10_dues_4, ht.1, hy.1, k.1, if_true]
    simp (disch := omega) only [zI_le]
    rw [if_neg (by omega), y_dues1 hy ht h k g hi, Option.bind_some, zl1, zI_add, zI_add]
  · simp only [F_X10_dues_4, ht.1, k.1, if_true]
    rw [if_pos (Int32.le_refl _)]
theorem y_allowedWith {σ : Sto} {y t n c : Nat} {μ : Nat → Int} (hy : yC y) (ht : tC t) (h : YR σ y μ n) (k : TR σ t μ n) (g : Gd μ n c) {d : Int} (hd : 0 ≤ d ∧ d ≤ 1000000) : F_X10_allowedWith σ y t (zI d) = some (zI (alw μ n d)) := by
  have a := rb_bd g
  have b := rd_bd g
  have e := g.2.2.2.2.2.2.2
  have hc := g.1.2.2
  unfold F_X10_allowedWith
  rw [if_pos hy.1, if_pos ht.1, y_base hy ht h k g, Option.bind_some, y_rate hy h, Option.bind_some, h.2.2, zI_mul, zl100, zI_div (by omega) (by omega) (by omega) (by omega), zI_add, zI_sub, zl0]
  simp (disch := omega) only [zI_lt]
  unfold alw
  split
  · rw [show max 0 ((ra μ * ba μ n).tdiv 100 + μ 33 - d) = (ra μ * ba μ n).tdiv 100 + μ 33 - d by omega]
  · rw [show max 0 ((ra μ * ba μ n).tdiv 100 + μ 33 - d) = 0 by omega]
theorem y_allowed {σ : Sto} {y t n c : Nat} {μ : Nat → Int} (hy : yC y) (ht : tC t) (h : YR σ y μ n) (k : TR σ t μ n) (g : Gd μ n c) : F_X10_allowed σ y t = some (zI (al μ n)) := by
  have d := du_bd g
  unfold F_X10_allowed
  rw [if_pos hy.1, y_dues hy ht h k.1 g, Option.bind_some, y_allowedWith hy ht h k g (by omega), Option.bind_some]
  rfl
theorem y_left {σ : Sto} {y t n c : Nat} {μ : Nat → Int} (hy : yC y) (ht : tC t) (h : YR σ y μ n) (k : TR σ t μ n) (g : Gd μ n c) : F_X10_left σ y t = some (zI (al μ n - sp μ n)) := by
  unfold F_X10_left
  rw [if_pos hy.1, y_allowed hy ht h k g, Option.bind_some, y_spent hy ht h k g, Option.bind_some, zI_sub]
theorem y_isKept {σ : Sto} {y t n c : Nat} {μ : Nat → Int} (hy : yC y) (ht : tC t) (h : YR σ y μ n) (k : TR σ t μ n) (g : Gd μ n c) : F_X10_isKept σ y t = some (if sp μ n ≤ al μ n then 1 else 0) := by
  have a := sp_bd g
  have b := al_bd0 g
  unfold F_X10_isKept
  rw [if_pos hy.1, y_left hy ht h k g, Option.bind_some, zl0]
  simp (disch := omega) only [zI_lt]
  by_cases q : sp μ n ≤ al μ n
  · rw [if_neg (by omega), if_pos q]
  · rw [if_pos (by omega), if_neg q]
def spw (μ : Nat → Int) (n s : Nat) (p : Int) : Int := sp μ n + (p - μ (7 * s + 1)) * we μ s
theorem y_spentWith {σ : Sto} {y t n c : Nat} {μ : Nat → Int} (hy : yC y) (ht : tC t) (h : YR σ y μ n) (k : TR σ t μ n) (g : Gd μ n c) {s : Nat} (hs : s < n) (p : Int) : F_X10_spentWith σ y t (zI s) (zI p) = some (zI (spw μ n s p)) := by
  have h4 := g.1.2.1
  unfold F_X10_spentWith
  rw [if_pos hy.1, y_spent hy ht h k g, Option.bind_some]
  simp (disch := omega) only [zI_ib, zI_ix, Int.toNat_natCast, (h.1 s hs).2.1]
  rw [if_pos (by omega), y_weight hy ht h k g hs, Option.bind_some, zI_sub, zI_mul, zI_add]
  rfl
theorem spw_bd {μ : Nat → Int} {n c : Nat} (g : Gd μ n c) {s : Nat} (hs : s < n) {p : Int} (hp : 0 ≤ p ∧ p ≤ 20) : -4000 ≤ spw μ n s p ∧ spw μ n s p ≤ 20000 := by
  have a := sp_bd g
  have b := we_bd g hs
  have d := (g.2.2.1 s hs).2.1
  have e1 := mul_bd (a := 20) (b := 200) hp.1 hp.2 b.1 b.2
  have e2 := mul_bd (a := 20) (b := 200) d.1 d.2 b.1 b.2
  unfold spw
  rw [Int.sub_mul]
  omega
theorem y_off0 {σ : Sto} {y t n c : Nat} {μ : Nat → Int} (hy : yC y) (ht : tC t) (h : YR σ y μ n) (k : TV σ t μ n) (g : Gd μ n c) : F_X9_off σ t (y + 1) = some (zI (of1 μ n 0)) :=
  t_off ht.1 hy.2.1 k g.2.1 g.1.2.1 (y_pr h g)
theorem y_off1 {σ : Sto} {y t n c : Nat} {μ : Nat → Int} (hy : yC y) (ht : tC t) (h : YR σ y μ n) (k : TV σ t μ n) (g : Gd μ n c) : F_X9_off σ t (y + 2) = some (zI (of1 μ n 1)) :=
  t_off ht.1 hy.2.2.1 k g.2.1 g.1.2.1 (y_fr h g)
