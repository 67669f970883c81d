/-! READING: WORDS -/
def gW : Nat → Nat → Int64 → Int32 → Option Int64
  | 0, _, _, _ => none
  | n + 1, t, l, i => if t < 12 then (if nI (lenTx.getD t 0) ≤ i then (some l) else (if ib i (lenTx.getD t 0) then (gW n t ((((l * 32) + (Int32.toInt64 ((bytTx.getD t []).getD (ix i) 0))) - 97) + 1) (i + 1)) else none)) else none
def gC : Nat → Nat → Int64 → Int32 → Option Int64
  | 0, _, _, _ => none
  | n + 1, t, l, i => if t < 12 then (if nI (lenTx.getD t 0) ≤ i then (some l) else (if ib i (lenTx.getD t 0) then (gC n t ((l <<< ((Int32.toInt64 5) &&& 63)) ||| (Int32.toInt64 ((((bytTx.getD t []).getD (ix i) 0) - 97) + 1))) (i + 1)) else none)) else none
theorem gW_eq (σ : Sto) : ∀ (n t : Nat) (l : Int64) (i : Int32), F_X12_wordOf_4 n σ t l i = gW n t l i
  | 0, _, _, _ => rfl
  | n + 1, t, l, i => by
    rw [F_X12_wordOf_4, gW, sw, gW_eq σ n]
theorem gC_eq (σ : Sto) : ∀ (n t : Nat) (l : Int64) (i : Int32), F_X6_isWord_5 n σ t l i = (gC n t l i).bind (fun w => if σ.1 2 3 = 1 then (if lg_cmp (σ.2.1 2 6) w = 0 then (some 1) else (some 0)) else (some 0))
  | 0, _, _, _ => rfl
  | n + 1, t, l, i => by
    rw [F_X6_isWord_5, gC]
    by_cases q1 : t < 12
    · rw [if_pos q1, if_pos q1]
      by_cases q2 : nI (lenTx.getD t 0) ≤ i
      · rw [if_pos q2, if_pos q2]; rfl
      · rw [if_neg q2, if_neg q2]
        by_cases q3 : ib i (lenTx.getD t 0)
        · rw [if_pos q3, if_pos q3, sw, gC_eq σ n]
        · rw [if_neg q3, if_neg q3]; rfl
    · rw [if_neg q1, if_neg q1]; rfl
def Wd (t : Nat) : Int64 := (gW FU t 0 0).getD 0
theorem Wd_all : ∀ t, t < 12 → gW FU t 0 0 = some (Wd t) ∧ gC FU t 0 0 = some (Wd t) := by decide +kernel
def wB (σ : Sto) (k : Nat) : Int32 := if σ.1 2 3 = 1 then (if lg_cmp (σ.2.1 2 6) (Wd k) = 0 then 1 else 0) else 0
theorem wB_01 (σ : Sto) (k : Nat) : wB σ k = 0 ∨ wB σ k = 1 := by
  unfold wB
  by_cases q : σ.1 2 3 = 1
  · rw [if_pos q]
    by_cases q2 : lg_cmp (σ.2.1 2 6) (Wd k) = 0
    · rw [if_pos q2]; exact Or.inr rfl
    · rw [if_neg q2]; exact Or.inl rfl
  · rw [if_neg q]; exact Or.inl rfl
theorem c_isW (σ : Sto) {k : Nat} (hk : k < 12) : F_X6_isWord σ k = some (wB σ k) := by
  unfold F_X6_isWord
  rw [gC_eq, (Wd_all k hk).2, Option.bind_some]
  unfold wB
  by_cases q : σ.1 2 3 = 1
  · rw [if_pos q, if_pos q]
    by_cases q2 : lg_cmp (σ.2.1 2 6) (Wd k) = 0
    · rw [if_pos q2, if_pos q2]
    · rw [if_neg q2, if_neg q2]
  · rw [if_neg q, if_neg q]
theorem m_isW {σ τ : Sto} (h : TkR σ τ) (h7 : τ.1 0 7 = 0) {k : Nat} (hk : k < 12) : F_X12_isWord τ k = some (wB σ k) := by
  unfold F_X12_isWord F_X12_wordOf
  rw [h7, if_pos rfl, gW_eq, (Wd_all k hk).1, Option.bind_some]
  unfold wB
  rcases h.2 with ⟨a, b⟩ | ⟨a, b, l, -, c, d⟩ | ⟨a, b, -⟩ | ⟨a, b, -⟩ | ⟨a, b, -⟩ | ⟨a, b⟩
  · rw [a, b, if_neg (by decide), if_neg (by decide)]
  · rw [a, b, if_pos rfl, if_pos rfl, c, d]
    by_cases q2 : lg_cmp (Int64.ofInt (nmV l)) (Wd k) = 0
    · rw [if_pos q2, if_pos q2]
    · rw [if_neg q2, if_neg q2]
  · rw [a, b, if_neg (by decide), if_neg (by decide)]
  · rw [a, b, if_neg (by decide), if_neg (by decide)]
  · rw [a, b, if_neg (by decide), if_neg (by decide)]
  · rw [a, b, if_neg (by decide), if_neg (by decide)]
/-- a word of the language's own -/
def Own (σ : Sto) : Prop := ∃ k, k < 12 ∧ wB σ k = 1
theorem m_isOwn {σ τ : Sto} (h : TkR σ τ) (h7 : τ.1 0 7 = 0) : ∃ b, F_X12_isOwn τ = some b ∧ ((b = 0 ∧ ¬ Own σ) ∨ (b = 1 ∧ Own σ)) := by
  have w : ∀ k, k < 12 → F_X12_isWord τ k = some (wB σ k) := fun k hk => m_isW h h7 hk
  unfold F_X12_isOwn
  rw [w 0 (by omega), Option.bind_some]
  rcases wB_01 σ 0 with e0 | e0
  rotate_left
  · rw [e0, if_neg (show ¬ (1 : Int32) = 0 by decide)]
    unfold F_X12_isOwn_54 F_X12_isOwn_59
    rw [if_neg (show ¬ (1 : Int32) = 0 by decide)]
    exact ⟨1, rfl, Or.inr ⟨rfl, 0, by omega, e0⟩⟩
  rw [e0, if_pos rfl]
  rw [w 1 (by omega), Option.bind_some]
  rcases wB_01 σ 1 with e1 | e1
  rotate_left
  · rw [e1, if_neg (show ¬ (1 : Int32) = 0 by decide)]
    unfold F_X12_isOwn_54 F_X12_isOwn_59
    rw [if_neg (show ¬ (1 : Int32) = 0 by decide)]
    exact ⟨1, rfl, Or.inr ⟨rfl, 1, by omega, e1⟩⟩
  rw [e1, if_pos rfl]
  rw [w 2 (by omega), Option.bind_some]
  rcases wB_01 σ 2 with e2 | e2
  rotate_left
  · rw [e2, if_neg (show ¬ (1 : Int32) = 0 by decide)]
    unfold F_X12_isOwn_54 F_X12_isOwn_59
    rw [if_neg (show ¬ (1 : Int32) = 0 by decide)]
    exact ⟨1, rfl, Or.inr ⟨rfl, 2, by omega, e2⟩⟩
  rw [e2, if_pos rfl]
  rw [w 3 (by omega), Option.bind_some]
  rcases wB_01 σ 3 with e3 | e3
  rotate_left
  · rw [e3, if_neg (show ¬ (1 : Int32) = 0 by decide)]
    unfold F_X12_isOwn_54 F_X12_isOwn_59
    rw [if_neg (show ¬ (1 : Int32) = 0 by decide)]
    exact ⟨1, rfl, Or.inr ⟨rfl, 3, by omega, e3⟩⟩
  rw [e3, if_pos rfl]
  rw [w 4 (by omega), Option.bind_some]
  rcases wB_01 σ 4 with e4 | e4
  rotate_left
  · rw [e4, if_neg (show ¬ (1 : Int32) = 0 by decide)]
    unfold F_X12_isOwn_54 F_X12_isOwn_59
    rw [if_neg (show ¬ (1 : Int32) = 0 by decide)]
    exact ⟨1, rfl, Or.inr ⟨rfl, 4, by omega, e4⟩⟩
  rw [e4, if_pos rfl]
  rw [w 5 (by omega), Option.bind_some]
  rcases wB_01 σ 5 with e5 | e5
  rotate_left
  · rw [e5, if_neg (show ¬ (1 : Int32) = 0 by decide)]
    unfold F_X12_isOwn_54 F_X12_isOwn_59
    rw [if_neg (show ¬ (1 : Int32) = 0 by decide)]
    exact ⟨1, rfl, Or.inr ⟨rfl, 5, by omega, e5⟩⟩
  rw [e5, if_pos rfl]
  unfold F_X12_isOwn_59
  rw [if_pos rfl]
  rw [w 6 (by omega), Option.bind_some]
  rcases wB_01 σ 6 with e6 | e6
  rotate_left
  · rw [e6, if_neg (show ¬ (1 : Int32) = 0 by decide)]
    exact ⟨1, rfl, Or.inr ⟨rfl, 6, by omega, e6⟩⟩
  rw [e6, if_pos rfl]
  rw [w 7 (by omega), Option.bind_some]
  rcases wB_01 σ 7 with e7 | e7
  rotate_left
  · rw [e7, if_neg (show ¬ (1 : Int32) = 0 by decide)]
    exact ⟨1, rfl, Or.inr ⟨rfl, 7, by omega, e7⟩⟩
  rw [e7, if_pos rfl]
  rw [w 8 (by omega), Option.bind_some]
  rcases wB_01 σ 8 with e8 | e8
  rotate_left
  · rw [e8, if_neg (show ¬ (1 : Int32) = 0 by decide)]
    exact ⟨1, rfl, Or.inr ⟨rfl, 8, by omega, e8⟩⟩
  rw [e8, if_pos rfl]
  rw [w 9 (by omega), Option.bind_some]
  rcases wB_01 σ 9 with e9 | e9
  rotate_left
  · rw [e9, if_neg (show ¬ (1 : Int32) = 0 by decide)]
    exact ⟨1, rfl, Or.inr ⟨rfl, 9, by omega, e9⟩⟩
  rw [e9, if_pos rfl]
  rw [w 10 (by omega), Option.bind_some]
  rcases wB_01 σ 10 with e10 | e10
  rotate_left
  · rw [e10, if_neg (show ¬ (1 : Int32) = 0 by decide)]
    exact ⟨1, rfl, Or.inr ⟨rfl, 10, by omega, e10⟩⟩
  rw [e10, if_pos rfl]
  rw [w 11 (by omega), Option.bind_some]
  rcases wB_01 σ 11 with e11 | e11
  rotate_left
  · rw [e11, if_neg (show ¬ (1 : Int32) = 0 by decide)]
    exact ⟨1, rfl, Or.inr ⟨rfl, 11, by omega, e11⟩⟩
  rw [e11, if_pos rfl]
  refine ⟨0, rfl, Or.inl ⟨rfl, ?_⟩⟩
  rintro ⟨k, hk, e⟩
  rcases (show k = 0 ∨ k = 1 ∨ k = 2 ∨ k = 3 ∨ k = 4 ∨ k = 5 ∨ k = 6 ∨ k = 7 ∨ k = 8 ∨ k = 9 ∨ k = 10 ∨ k = 11 by omega) with rfl | rfl | rfl | rfl | rfl | rfl | rfl | rfl | rfl | rfl | rfl | rfl
  · rw [e0] at e; exact absurd e (by decide)
  · rw [e1] at e; exact absurd e (by decide)
  · rw [e2] at e; exact absurd e (by decide)
  · rw [e3] at e; exact absurd e (by decide)
  · rw [e4] at e; exact absurd e (by decide)
  · rw [e5] at e; exact absurd e (by decide)
  · rw [e6] at e; exact absurd e (by decide)
  · rw [e7] at e; exact absurd e (by decide)
  · rw [e8] at e; exact absurd e (by decide)
  · rw [e9] at e; exact absurd e (by decide)
  · rw [e10] at e; exact absurd e (by decide)
  · rw [e11] at e; exact absurd e (by decide)
theorem c_wv (σ : Sto) {i : Nat} (hi : i < 6) : F_X6_wordOfValue σ (zI i) = some (i + 1) := by
  unfold F_X6_wordOfValue
  rcases (show i = 0 ∨ i = 1 ∨ i = 2 ∨ i = 3 ∨ i = 4 ∨ i = 5 by omega) with rfl | rfl | rfl | rfl | rfl | rfl <;> decide
theorem c_wr (σ : Sto) {i : Nat} (hi : i < 4) : F_X6_wordOfRule σ (zI i) = some (i + 8) := by
  unfold F_X6_wordOfRule
  rcases (show i = 0 ∨ i = 1 ∨ i = 2 ∨ i = 3 by omega) with rfl | rfl | rfl | rfl <;> decide
theorem c_60_1 (σ : Sto) : ∀ (d i j : Nat), i + d = 6 → d < j → F_X6_isReserved_60 j σ 1 (zI i) = some 1 := by
  intro d
  induction d with
  | zero =>
    intro i j k1 k2
    obtain ⟨j, rfl⟩ : ∃ x, j = x + 1 := ⟨j - 1, by omega⟩
    rw [F_X6_isReserved_60, zl6, if_pos (zleT (by omega)), if_pos (Or.inr rfl)]
  | succ d ih =>
    intro i j k1 k2
    obtain ⟨j, rfl⟩ : ∃ x, j = x + 1 := ⟨j - 1, by omega⟩
    rw [F_X6_isReserved_60, zl6, if_neg (zleF (by omega)), if_neg (by decide)]
    unfold F_X6_isReserved_81
    rw [zI_s1]
    exact ih (i + 1) j (by omega) (by omega)
theorem c_60_0 (σ : Sto) : ∀ (d i j : Nat), i + d = 6 → d < j → ∃ b, F_X6_isReserved_60 j σ 0 (zI i) = some b ∧ ((b = 0 ∧ ∀ k, i < k → k ≤ 6 → wB σ k = 0) ∨ (b = 1 ∧ ∃ k, k ≤ 6 ∧ wB σ k = 1)) := by
  intro d
  induction d with
  | zero =>
    intro i j k1 k2
    obtain ⟨j, rfl⟩ : ∃ x, j = x + 1 := ⟨j - 1, by omega⟩
    rw [F_X6_isReserved_60, zl6, if_pos (zleT (by omega)), if_pos (Or.inl rfl)]
    exact ⟨0, rfl, Or.inl ⟨rfl, fun k h1 h2 => by omega⟩⟩
  | succ d ih =>
    intro i j k1 k2
    obtain ⟨j, rfl⟩ : ∃ x, j = x + 1 := ⟨j - 1, by omega⟩
    rw [F_X6_isReserved_60, zl6, if_neg (zleF (by omega)), if_pos rfl, c_wv σ (by omega), Option.bind_some, c_isW σ (by omega), Option.bind_some, zI_s1]
    rcases wB_01 σ (i + 1) with e | e
    · rw [e, if_pos rfl]
      obtain ⟨b, b1, b2⟩ := ih (i + 1) j (by omega) (by omega)
      refine ⟨b, b1, ?_⟩
      rcases b2 with ⟨b2, b3⟩ | b2
      · refine Or.inl ⟨b2, fun k h1 h2 => ?_⟩
        by_cases q : k = i + 1
        · rw [q]; exact e
        · exact b3 k (by omega) h2
      · exact Or.inr b2
    · rw [e, if_neg (by decide)]
      unfold F_X6_isReserved_81
      rw [zI_s1]
      exact ⟨1, c_60_1 σ d (i + 1) j (by omega) (by omega), Or.inr ⟨rfl, i + 1, by omega, e⟩⟩
theorem c_26_1 (σ : Sto) : ∀ (d i j : Nat), i + d = 4 → d < j → F_X6_isReserved_26 j σ 1 (zI i) = some 1 := by
  intro d
  induction d with
  | zero =>
    intro i j k1 k2
    obtain ⟨j, rfl⟩ : ∃ x, j = x + 1 := ⟨j - 1, by omega⟩
    rw [F_X6_isReserved_26, zl4, if_pos (zleT (by omega))]
    exact c_60_1 σ 6 0 FU (by omega) (FU_lt (by omega))
  | succ d ih =>
    intro i j k1 k2
    obtain ⟨j, rfl⟩ : ∃ x, j = x + 1 := ⟨j - 1, by omega⟩
    rw [F_X6_isReserved_26, zl4, if_neg (zleF (by omega)), if_neg (by decide)]
    unfold F_X6_isReserved_46
    rw [zI_s1]
    exact ih (i + 1) j (by omega) (by omega)
theorem c_26_0 (σ : Sto) : ∀ (d i j : Nat), i + d = 4 → d < j → ∃ b, F_X6_isReserved_26 j σ 0 (zI i) = some b ∧ ((b = 0 ∧ ∀ k, ((1 ≤ k ∧ k ≤ 6) ∨ (i + 8 ≤ k ∧ k ≤ 11)) → wB σ k = 0) ∨ (b = 1 ∧ Own σ)) := by
  intro d
  induction d with
  | zero =>
    intro i j k1 k2
    obtain ⟨j, rfl⟩ : ∃ x, j = x + 1 := ⟨j - 1, by omega⟩
    rw [F_X6_isReserved_26, zl4, if_pos (zleT (by omega))]
    obtain ⟨b, b1, b2⟩ := c_60_0 σ 6 0 FU (by omega) (FU_lt (by omega))
    refine ⟨b, b1, ?_⟩
    rcases b2 with ⟨b2, b3⟩ | ⟨b2, k, b3, b4⟩
    · exact Or.inl ⟨b2, fun k hk => b3 k (by omega) (by omega)⟩
    · exact Or.inr ⟨b2, k, by omega, b4⟩
  | succ d ih =>
    intro i j k1 k2
    obtain ⟨j, rfl⟩ : ∃ x, j = x + 1 := ⟨j - 1, by omega⟩
    rw [F_X6_isReserved_26, zl4, if_neg (zleF (by omega)), if_pos rfl, c_wr σ (by omega), Option.bind_some, c_isW σ (by omega), Option.bind_some, zI_s1]
    rcases wB_01 σ (i + 8) with e | e
    · rw [e, if_pos rfl]
      obtain ⟨b, b1, b2⟩ := ih (i + 1) j (by omega) (by omega)
      refine ⟨b, b1, ?_⟩
      rcases b2 with ⟨b2, b3⟩ | b2
      · refine Or.inl ⟨b2, fun k h1 => ?_⟩
        by_cases q : k = i + 8
        · rw [q]; exact e
        · exact b3 k (by omega)
      · exact Or.inr b2
    · rw [e, if_neg (by decide)]
      unfold F_X6_isReserved_46
      rw [zI_s1]
      exact ⟨1, c_26_1 σ d (i + 1) j (by omega) (by omega), Or.inr ⟨rfl, i + 8, by omega, e⟩⟩
theorem c_res (σ : Sto) : ∃ b, F_X6_isReserved σ = some b ∧ ((b = 0 ∧ ¬ Own σ) ∨ (b = 1 ∧ Own σ)) := by
  unfold F_X6_isReserved
  rw [c_isW σ (show 0 < 12 by omega), Option.bind_some, c_isW σ (show 7 < 12 by omega), Option.bind_some]
  unfold F_X6_isReserved_18
  have on : F_X6_isReserved_26 FU σ 1 0 = some 1 := c_26_1 σ 4 0 FU (by omega) (FU_lt (by omega))
  rcases wB_01 σ 0 with e0 | e0
  · rw [e0, if_pos rfl]
    rcases wB_01 σ 7 with e7 | e7
    · rw [e7, if_pos rfl]
      obtain ⟨b, b1, b2⟩ := c_26_0 σ 4 0 FU (by omega) (FU_lt (by omega))
      refine ⟨b, b1, ?_⟩
      rcases b2 with ⟨b2, b3⟩ | b2
      · refine Or.inl ⟨b2, ?_⟩
        rintro ⟨k, hk, e⟩
        by_cases q0 : k = 0
        · rw [q0, e0] at e; exact absurd e (by decide)
        · by_cases q7 : k = 7
          · rw [q7, e7] at e; exact absurd e (by decide)
          · rw [b3 k (by omega)] at e; exact absurd e (by decide)
      · exact Or.inr b2
    · rw [e7, if_neg (by decide), on]
      exact ⟨1, rfl, Or.inr ⟨rfl, 7, by omega, e7⟩⟩
  · rw [e0, if_neg (by decide), on]
    exact ⟨1, rfl, Or.inr ⟨rfl, 0, by omega, e0⟩⟩
