/-! WHAT HOLDS BETWEEN THE TWO STORES -/
/-- rows that keep lines, and the best of them -/
def Fea (n L : Nat) (ld : Nat → Nat → Int) (rm : Nat → Int) (lo hi : Nat → Int) (r : Nat → Int) : Prop := (∀ s, s < n → lo s ≤ r s ∧ r s ≤ hi s) ∧ ∀ c, c < L → sz n (fun s => ld c s * r s) ≤ rm c
def vl (n : Nat) (w : Nat → Nat → Int) (r : Nat → Int) : Int := sz n (fun s => w s (r s).toNat)
def Lex (n : Nat) (r q : Nat → Int) : Prop := ∃ s, s < n ∧ (∀ i, i < s → r i = q i) ∧ r s < q s
def Opt (n L : Nat) (ld : Nat → Nat → Int) (rm : Nat → Int) (lo hi : Nat → Int) (w : Nat → Nat → Int) (r : Nat → Int) : Prop := Fea n L ld rm lo hi r ∧ ∀ q, Fea n L ld rm lo hi q → vl n w q ≤ vl n w r ∧ (vl n w q = vl n w r → (∀ s, s < n → q s = r s) ∨ Lex n r q)
def lds (μ : Nat → Int) (un : Nat → Nat → Int) : Nat → Nat → Int := fun c s => if c = 0 then we μ s else un (c - 1) s
def rms (μ : Nat → Int) (n : Nat) (un : Nat → Nat → Int) : Nat → Int := fun c => if c = 0 then al μ n else sz n (fun s => un (c - 1) s * μ (7 * s))
def lo0 : Nat → Int := fun _ => 0
def hi0 : Nat → Int := fun _ => 20
def loD (μ : Nat → Int) (d : Int) : Nat → Int := fun s => max 0 (μ (7 * s) - d)
def hiD (μ : Nat → Int) (d : Int) : Nat → Int := fun s => min 20 (μ (7 * s) + d)
def prw (μ : Nat → Int) : Nat → Nat → Int := fun s p => pr μ s p
def gow (μ : Nat → Int) : Nat → Nat → Int := fun s p => go μ s p
def opB (μ : Nat → Int) (n : Nat) (r : Nat → Int) : Prop := Opt n 1 (lds μ fun _ _ => 0) (rms μ n fun _ _ => 0) lo0 hi0 (prw μ) r
def opF (μ : Nat → Int) (n : Nat) (r : Nat → Int) : Prop := Opt n 1 (lds μ fun _ _ => 0) (rms μ n fun _ _ => 0) lo0 hi0 (gow μ) r
def opG (μ : Nat → Int) (n nb : Nat) (un : Nat → Nat → Int) (r : Nat → Int) : Prop := Opt n (1 + nb) (lds μ un) (rms μ n un) lo0 hi0 (prw μ) r
def opS (μ : Nat → Int) (n : Nat) (d : Int) (r : Nat → Int) : Prop := Opt n 1 (lds μ fun _ _ => 0) (rms μ n fun _ _ => 0) (loD μ d) (hiD μ d) (prw μ) r
/-- rows that keep the cap, counted -/
def cnt (μ : Nat → Int) : Nat → Nat → Int → Int
  | 0, _, _ => 1
  | d + 1, s, left => sz 21 (fun p => if (p : Int) * we μ s ≤ left then cnt μ d (s + 1) (left - p * we μ s) else 0)
/-- a row laid as NEW, a year's end -/
def lay1 (μ : Nat → Int) (n : Nat) (r : Nat → Int) : Nat → Int := fun k => if k < 7 * n ∧ k % 7 = 1 then r (k / 7) else μ k
def car (μ : Nat → Int) (n : Nat) : Int := if al μ n - sp μ n < 0 then 2 * (al μ n - sp μ n) else min (al μ n - sp μ n) ((μ 30 * al μ n).tdiv 100)
def en (μ : Nat → Int) (n : Nat) : Nat → Int := fun k => if k = 33 then car μ n else if k < 7 * n ∧ k % 7 = 0 then μ (k + 1) else μ k
noncomputable def bR (μ : Nat → Int) (n : Nat) : Nat → Int := Classical.epsilon (fun r => opB μ n r)
/-- the years ahead -/
noncomputable def ah (μ : Nat → Int) (n : Nat) : Nat → Nat → Int
  | 0 => μ
  | k + 1 => en (lay1 (ah μ n k) n (bR (ah μ n k) n)) n
noncomputable def paP (μ : Nat → Int) (n : Nat) : Nat → Int
  | 0 => 0
  | k + 1 => paP μ n k + vl n (prw μ) (bR (ah μ n k) n)
noncomputable def paG (μ : Nat → Int) (n : Nat) : Nat → Int
  | 0 => 0
  | k + 1 => paG μ n k + vl n (gow μ) (bR (ah μ n k) n)
noncomputable def paO (μ : Nat → Int) (n : Nat) : Nat → Int
  | 0 => 0
  | k + 1 => paO μ n k + (if ∀ s, s < n → bR (ah μ n k) n s = ah μ n k (7 * s) then 0 else 1)
/-- a game: the first of the greatest -/
def pl (μ : Nat → Int) (s : Nat) (p : Int) : Nat → Int := fun k => if k = 7 * s + 1 then p else μ k
noncomputable def gw (μ : Nat → Int) (n s : Nat) (p : Int) : Int := allP (pl μ s p) n + vl n (prw μ) (bR (en (pl μ s p) n) n)
def gOk (μ : Nat → Int) (n s : Nat) (p : Int) : Prop := s < n ∧ 0 ≤ p ∧ p ≤ 20 ∧ spw μ n s p ≤ al μ n
def gOp (μ : Nat → Int) (n s : Nat) (p : Int) : Prop := gOk μ n s p ∧ ∀ u q, gOk μ n u q → gw μ n u q ≤ gw μ n s p ∧ (gw μ n u q = gw μ n s p → s < u ∨ (s = u ∧ p ≤ q))
/-- what is laid up -/
def RwK (σ : Sto) (r n : Nat) (op : (Nat → Int) → Prop) (w : Nat → Nat → Int) : Prop := σ.1 r 0 = 0 ∨ (σ.1 r 0 = 1 ∧ ((σ.1 r 1 = 0 ∧ ∀ q, ¬ op q) ∨ (σ.1 r 1 = 1 ∧ ∃ q, op q ∧ σ.1 r 2 = zI (vl n w q) ∧ ∀ s, s < n → σ.1 (r + 1) s = zI (q s))))
def CfF (σ : Sto) (n nb : Nat) (μ : Nat → Int) (un : Nat → Nat → Int) : Prop := RwK σ 76 n (opB μ n) (prw μ) ∧ RwK σ 78 n (opF μ n) (gow μ) ∧ RwK σ 80 n (opG μ n nb un) (prw μ) ∧ (σ.1 82 0 = 0 ∨ ∃ d : Int, 0 ≤ d ∧ d ≤ 20 ∧ σ.1 75 5 = zI d ∧ RwK σ 82 n (opS μ n d) (prw μ)) ∧ (σ.1 75 6 = -1 ∨ σ.1 75 6 = zI (cnt μ n 0 (al μ n)))
/-- a year but for its NEW prices -/
def YQ (σ : Sto) (y : Nat) (μ : Nat → Int) (n : Nat) : Prop := (∀ s, s < n → σ.1 (y + 1) s = zI (μ (7 * s)) ∧ σ.1 (y + 3) s = zI (μ (7 * s + 5))) ∧ (∀ r, r < 4 → σ.1 (y + 4) r = zI (μ (28 + r))) ∧ σ.1 y 1 = zI (μ 33)
def CW (σ : Sto) (n : Nat) (μ : Nat → Int) : Prop := σ.1 84 6 = -1 ∨ ∃ k : Nat, k ≤ 8 ∧ σ.1 84 6 = zI k ∧ YQ σ 87 (ah μ n k) n ∧ ∀ j, j ≤ k → σ.1 97 (4 * j) = zI (paP μ n j) ∧ σ.1 97 (4 * j + 1) = zI (paG μ n j) ∧ σ.1 97 (4 * j + 2) = zI (of1 (ah μ n j) n 0) ∧ σ.1 97 (4 * j + 3) = zI (paO μ n j)
def CG (σ : Sto) (n : Nat) (μ : Nat → Int) : Prop := σ.1 84 7 = 0 ∨ (σ.1 84 7 = 1 ∧ ((σ.1 84 8 = 0 ∧ ∀ s p, ¬ gOk μ n s p) ∨ (σ.1 84 8 = 1 ∧ ∃ (s : Nat) (p : Int), gOp μ n s p ∧ σ.1 98 0 = zI (gw μ n s p) ∧ σ.1 98 1 = zI s ∧ σ.1 98 2 = zI p ∧ σ.1 98 3 = zI (allP (pl μ s p) n))))
def CN (σ : Sto) (n : Nat) (μ : Nat → Int) : Prop := σ.1 84 9 = 0 ∨ (σ.1 84 9 = 1 ∧ σ.1 84 10 = zI (vl n (prw μ) (bR (en μ n) n)))
/-- the state -/
def sT (P μ : Nat → Int) (n : Nat) : Prop := ∀ s, s < n → P (7 * s + 2) = μ (7 * s + 2) ∧ P (7 * s + 3) = μ (7 * s + 3) ∧ P (7 * s + 4) = μ (7 * s + 4) ∧ P (7 * s + 6) = μ (7 * s + 6)
def Tp (σC σM : Sto) : Prop := ∃ m : Nat, m ≤ 500 ∧ σC.1 0 14 = zI m ∧ σM.1 0 4 = zI m ∧ ∀ i, i < m → σC.1 1 i = σM.1 1 i ∧ ∃ b : Int, 0 ≤ b ∧ b ≤ 255 ∧ σC.1 1 i = zI b
def Wr (σC σM : Sto) : Prop := ∃ m : Nat, m ≤ 11 ∧ σC.1 0 15 = zI m ∧ σM.1 0 46 = zI m ∧ ∀ i, i < m → σC.1 101 i = σM.1 18 i
def Tq (σC σM : Sto) : Prop := σC.1 0 18 = σM.1 0 1 ∧ σC.1 0 16 = σM.1 0 7 ∧ σM.1 0 2 = if σC.1 0 18 = 4 then σC.1 0 17 else -1
def Tn (σC : Sto) : Prop := (σC.2.2 0 11 = some 102 ∧ σC.2.2 0 12 = some 110) ∨ (σC.2.2 0 11 = some 110 ∧ σC.2.2 0 12 = some 102)
def Mz (σM : Sto) : Prop := σM.1 0 38 = -1 ∧ σM.1 0 39 = 0
def Ul (σC σM : Sto) : Prop := σC.1 0 13 = 0 ∧ σM.1 0 25 = 0
def Bk (σC σM : Sto) (a o b N : Nat) : Prop := ∀ y, y < N → (∀ j, j < 4 → σM.1 a (o + 5 * y + j) = σC.1 b (4 * y + j)) ∧ σM.1 a (o + 5 * y + 4) = if σC.1 b (4 * y) ≤ σC.1 b (4 * y + 1) then 1 else 0
/-- a year that is kept: the class's at y, the reference's in row a from o on -/
def Kp (σC σM : Sto) (y a o n : Nat) (μ P : Nat → Int) : Prop := (∀ k, k < 34 → σM.1 a (o + k) = zI (P k)) ∧ YR σC y P n ∧ σC.1 y 0 = zI (P 32) ∧ GdY P n (P 32).toNat ∧ (0 ≤ P 32 ∧ P 32 ≤ 99) ∧ sT P μ n
def Pa (σC σM : Sto) (n h ac : Nat) (μ : Nat → Int) : Prop := (∀ i, i < ac → ∃ P : Nat → Int, Kp σC σM (12 + 5 * ((h + 10 - ac + i) % 10)) 5 (534 * i) n μ P ∧ P 32 ≤ μ 32 ∧ ∀ k, k < 5 * (P 32).toNat → σM.1 5 (534 * i + (34 + k)) = σM.1 2 (34 + k)) ∧ ∀ i j, i < j → j < ac → σM.1 5 (534 * i + 32) ≤ σM.1 5 (534 * j + 32)
def Im (σC σM : Sto) (n : Nat) (μ : Nat → Int) : Prop := ∀ i, i < 2 → (σC.1 (118 + 8 * i) 0 = 0 ∧ σM.1 9 i = 0) ∨ (σC.1 (118 + 8 * i) 0 = 1 ∧ σM.1 9 i = 1 ∧ ∃ P : Nat → Int, Kp σC σM (119 + 8 * i) 6 (534 * i) n μ P ∧ Bk σC σM 6 (534 * i + 34) (125 + 8 * i) (P 32).toNat)
def By (σC σM : Sto) (n nb t : Nat) (un : Nat → Nat → Int) : Prop := nb ≤ 4 ∧ σC.1 t 1 = zI nb ∧ σM.1 0 28 = zI nb ∧ ∀ b, b < nb → ∀ s, s < n → σC.1 (t + 3) (4 * b + s) = zI (un b s) ∧ σM.1 10 (4 * b + s) = zI (un b s) ∧ 0 ≤ un b s ∧ un b s ≤ 99
/-- a name's letters, the last one first -/
def nmV : List Int → Int
  | [] => 0
  | x :: l => nmV l * 32 + x
def Nm (σC σM : Sto) (n t : Nat) : Prop := ∀ s, s < n → σC.2.1 (t + 1) s = σM.2.1 7 s ∧ ∃ l : List Int, 1 ≤ l.length ∧ l.length ≤ 7 ∧ (∀ x, x ∈ l → 1 ≤ x ∧ x ≤ 26) ∧ σM.2.1 7 s = Int64.ofInt (nmV l)
def Ld (σC σM : Sto) (n nb t h ac : Nat) (μ : Nat → Int) (un : Nat → Nat → Int) : Prop :=
  (σC.1 0 13 = 1 ∧ σM.1 0 25 = 1 ∧ σC.2.2 0 11 = some t ∧ (t = 102 ∨ t = 110)) ∧ (Gd μ n (μ 32).toNat ∧ 0 ≤ μ 32 ∧ μ 32 ≤ 99) ∧ MS σM μ n ∧ (YR σC 3 μ n ∧ σC.1 3 0 = zI (μ 32)) ∧ TR σC t μ n ∧ By σC σM n nb t un ∧ Nm σC σM n t ∧ Bk σC σM 2 34 9 (μ 32).toNat ∧ (ac ≤ 10 ∧ h < 10 ∧ σC.1 10 1 = zI h ∧ σC.1 10 2 = zI ac ∧ σM.1 0 24 = zI ac ∧ Pa σC σM n h ac μ) ∧ Im σC σM n μ
def Ca (σC : Sto) (n nb : Nat) (μ : Nat → Int) (un : Nat → Nat → Int) : Prop := CfF σC n nb μ un ∧ CW σC n μ ∧ CG σC n μ ∧ CN σC n μ
def Gl (σC σM : Sto) : Prop := Tp σC σM ∧ Wr σC σM ∧ Tn σC ∧ ∃ h : Nat, h < 10 ∧ σC.1 10 1 = zI h
def Inv (σC σM : Sto) : Prop := Gl σC σM ∧ Tq σC σM ∧ Mz σM ∧ (Ul σC σM ∨ ∃ (n nb t h ac : Nat) (μ : Nat → Int) (un : Nat → Nat → Int), Ld σC σM n nb t h ac μ un ∧ Ca σC n nb μ un)
/-- stores that agree in what counts -/
def AgC (σ τ : Sto) : Prop := (∀ a k, ((a = 0 ∧ k ≠ 18) ∨ a = 1 ∨ (3 ≤ a ∧ a ≤ 62) ∨ 101 ≤ a) → τ.1 a k = σ.1 a k) ∧ τ.2 = σ.2
def AgM (σ τ : Sto) : Prop := (∀ a k, ((a = 0 ∧ (k = 4 ∨ k = 7 ∨ k = 22 ∨ k = 24 ∨ k = 25 ∨ k = 28 ∨ k = 38 ∨ k = 39 ∨ k = 46)) ∨ a = 1 ∨ a = 2 ∨ a = 5 ∨ a = 6 ∨ a = 9 ∨ a = 10 ∨ a = 18) → τ.1 a k = σ.1 a k) ∧ τ.2 = σ.2
def AgL (σ τ : Sto) : Prop := (∀ a k, ((a = 0 ∧ k = 13) ∨ (3 ≤ a ∧ a ≤ 62) ∨ 102 ≤ a) → τ.1 a k = σ.1 a k) ∧ τ.2 = σ.2
def AmL (σ τ : Sto) : Prop := (∀ a k, ((a = 0 ∧ (k = 22 ∨ k = 24 ∨ k = 25 ∨ k = 28)) ∨ a = 2 ∨ a = 5 ∨ a = 6 ∨ a = 9 ∨ a = 10) → τ.1 a k = σ.1 a k) ∧ τ.2 = σ.2
theorem AgC_l {σ τ : Sto} (h : AgC σ τ) : AgL σ τ := ⟨fun a k q => h.1 a k (by omega), h.2⟩
theorem AgM_l {σ τ : Sto} (h : AgM σ τ) : AmL σ τ := ⟨fun a k q => h.1 a k (by omega), h.2⟩
theorem AgC_rfl (σ : Sto) : AgC σ σ := ⟨fun _ _ _ => rfl, rfl⟩
theorem AgM_rfl (σ : Sto) : AgM σ σ := ⟨fun _ _ _ => rfl, rfl⟩
theorem AgC_tr {σ τ υ : Sto} (h : AgC σ τ) (k : AgC τ υ) : AgC σ υ := ⟨fun a j q => (k.1 a j q).trans (h.1 a j q), k.2.trans h.2⟩
theorem AgM_tr {σ τ υ : Sto} (h : AgM σ τ) (k : AgM τ υ) : AgM σ υ := ⟨fun a j q => (k.1 a j q).trans (h.1 a j q), k.2.trans h.2⟩
theorem si_rd (σ : Sto) (a k b j : Nat) (x : Int32) : (si σ a k x).1 b j = if b = a ∧ j = k then x else σ.1 b j := by
  unfold si u2
  by_cases h : b = a
  · subst h
    by_cases h2 : j = k <;> simp [h2]
  · simp [h]
theorem sI_rd (σ : Sto) (a b j : Nat) (f : Nat → Int32) : (sI σ a f).1 b j = if b = a then f j else σ.1 b j := by
  unfold sI
  by_cases h : b = a <;> simp [h]
theorem AgC_si (σ : Sto) (a k : Nat) (x : Int32) (h : ¬ ((a = 0 ∧ k ≠ 18) ∨ a = 1 ∨ (3 ≤ a ∧ a ≤ 62) ∨ 101 ≤ a)) : AgC σ (si σ a k x) :=
  ⟨fun b j q => by rw [si_rd, if_neg]; rintro ⟨rfl, rfl⟩; exact h q, rfl⟩
theorem AgC_sI (σ : Sto) (a : Nat) (f : Nat → Int32) (h : ¬ (a = 0 ∨ a = 1 ∨ (3 ≤ a ∧ a ≤ 62) ∨ 101 ≤ a)) : AgC σ (sI σ a f) :=
  ⟨fun b j q => by rw [sI_rd, if_neg]; rintro rfl; omega, rfl⟩
theorem AgM_si (σ : Sto) (a k : Nat) (x : Int32) (h : ¬ ((a = 0 ∧ (k = 4 ∨ k = 7 ∨ k = 22 ∨ k = 24 ∨ k = 25 ∨ k = 28 ∨ k = 38 ∨ k = 39 ∨ k = 46)) ∨ a = 1 ∨ a = 2 ∨ a = 5 ∨ a = 6 ∨ a = 9 ∨ a = 10 ∨ a = 18)) : AgM σ (si σ a k x) :=
  ⟨fun b j q => by rw [si_rd, if_neg]; rintro ⟨rfl, rfl⟩; exact h q, rfl⟩
theorem Gl_ag {σC σM τC τM : Sto} (hC : AgC σC τC) (hM : AgM σM τM) (h : Gl σC σM) : Gl τC τM := by
  unfold Gl Tp Wr Tn at *
  simp (disch := omega) only [hC.1, hM.1, hC.2]
  exact h
theorem Mz_ag {σM τM : Sto} (hM : AgM σM τM) (h : Mz σM) : Mz τM := by
  unfold Mz at *
  simp (disch := omega) only [hM.1]
  exact h
theorem Ul_ag {σC σM τC τM : Sto} (hC : AgL σC τC) (hM : AmL σM τM) (h : Ul σC σM) : Ul τC τM := by
  unfold Ul at *
  simp (disch := omega) only [hC.1, hM.1, hC.2]
  exact h
theorem YR_ag {σC τC : Sto} (hC : AgL σC τC) {y n : Nat} {μ : Nat → Int} (hy : 3 ≤ y ∧ y ≤ 58 ∨ 102 ≤ y) : YR σC y μ n → YR τC y μ n := by
  intro h
  unfold YR at *
  simp (disch := omega) only [hC.1]
  exact h
theorem MS_ag {σM τM : Sto} (hM : AmL σM τM) {n : Nat} {μ : Nat → Int} (h : MS σM μ n) : MS τM μ n := by
  unfold MS at *
  simp (disch := omega) only [hM.1]
  exact h
theorem TR_ag {σC τC : Sto} (hC : AgL σC τC) {t n : Nat} {μ : Nat → Int} (ht : t = 102 ∨ t = 110) (h : TR σC t μ n) : TR τC t μ n := by
  unfold TR TV at *
  simp (disch := omega) only [hC.1]
  exact h
theorem By_ag {σC σM τC τM : Sto} (hC : AgL σC τC) (hM : AmL σM τM) {n nb t : Nat} {un : Nat → Nat → Int} (ht : t = 102 ∨ t = 110) (h : By σC σM n nb t un) : By τC τM n nb t un := by
  unfold By at *
  simp (disch := omega) only [hC.1, hM.1]
  exact h
theorem Nm_ag {σC σM τC τM : Sto} (hC : AgL σC τC) (hM : AmL σM τM) {n t : Nat} (h : Nm σC σM n t) : Nm τC τM n t := by
  unfold Nm at *
  simp only [hC.2, hM.2]
  exact h
theorem Bk_ag {σC σM τC τM : Sto} (hC : AgL σC τC) (hM : AmL σM τM) {a o b N : Nat} (ha : a = 2 ∨ a = 6) (hb : b = 9 ∨ 102 ≤ b) (h : Bk σC σM a o b N) : Bk τC τM a o b N := by
  unfold Bk at *
  simp (disch := omega) only [hC.1, hM.1]
  exact h
theorem Kp_ag {σC σM τC τM : Sto} (hC : AgL σC τC) (hM : AmL σM τM) {y a o n : Nat} {μ P : Nat → Int} (hy : 3 ≤ y ∧ y ≤ 58 ∨ 102 ≤ y) (ha : a = 5 ∨ a = 6) (h : Kp σC σM y a o n μ P) : Kp τC τM y a o n μ P := by
  obtain ⟨h1, h2, h3, h4⟩ := h
  refine ⟨fun k hk => ?_, YR_ag hC hy h2, ?_, h4⟩
  · rw [hM.1 _ _ (by omega)]; exact h1 k hk
  · rw [hC.1 _ _ (by omega)]; exact h3
theorem Pa_ag {σC σM τC τM : Sto} (hC : AgL σC τC) (hM : AmL σM τM) {n h ac : Nat} {μ : Nat → Int} (H : Pa σC σM n h ac μ) : Pa τC τM n h ac μ := by
  refine ⟨fun i hi => ?_, fun i j h1 h2 => ?_⟩
  · obtain ⟨P, h1, h2, h3⟩ := H.1 i hi
    refine ⟨P, Kp_ag hC hM (by omega) (by omega) h1, h2, fun k hk => ?_⟩
    rw [hM.1 _ _ (by omega), hM.1 _ _ (by omega)]
    exact h3 k hk
  · rw [hM.1 _ _ (by omega), hM.1 _ _ (by omega)]
    exact H.2 i j h1 h2
theorem Im_ag {σC σM τC τM : Sto} (hC : AgL σC τC) (hM : AmL σM τM) {n : Nat} {μ : Nat → Int} (H : Im σC σM n μ) : Im τC τM n μ := by
  intro i hi
  rw [hC.1 _ _ (by omega), hM.1 _ _ (by omega)]
  rcases H i hi with h | ⟨h1, h2, P, h3, h4⟩
  · exact Or.inl h
  · exact Or.inr ⟨h1, h2, P, Kp_ag hC hM (by omega) (by omega) h3, Bk_ag hC hM (by omega) (by omega) h4⟩
theorem Ld_ag {σC σM τC τM : Sto} (hC : AgL σC τC) (hM : AmL σM τM) {n nb t h ac : Nat} {μ : Nat → Int} {un : Nat → Nat → Int} (H : Ld σC σM n nb t h ac μ un) : Ld τC τM n nb t h ac μ un := by
  obtain ⟨h1, h2, h3, h4, h5, h6, h7, h8, h9, h10⟩ := H
  refine ⟨?_, h2, MS_ag hM h3, ⟨YR_ag hC (by omega) h4.1, ?_⟩, TR_ag hC h1.2.2.2 h5, By_ag hC hM h1.2.2.2 h6, Nm_ag hC hM h7, Bk_ag hC hM (by omega) (by omega) h8, ?_, Im_ag hC hM h10⟩
  · rw [hC.1 _ _ (by omega), hM.1 _ _ (by omega), hC.2]
    exact h1
  · rw [hC.1 _ _ (by omega)]; exact h4.2
  · rw [hC.1 _ _ (by omega), hC.1 _ _ (by omega), hM.1 _ _ (by omega)]
    exact ⟨h9.1, h9.2.1, h9.2.2.1, h9.2.2.2.1, h9.2.2.2.2.1, Pa_ag hC hM h9.2.2.2.2.2⟩
theorem Ca_ag {σ τ : Sto} (hC : ∀ a, 75 ≤ a → a ≤ 98 → τ.1 a = σ.1 a) {n nb : Nat} {μ : Nat → Int} {un : Nat → Nat → Int} (H : Ca σ n nb μ un) : Ca τ n nb μ un := by
  unfold Ca CfF CW CG CN RwK YQ at *
  simp (disch := omega) only [hC]
  exact H
/-- a query that wrote nothing but its trouble -/
theorem Inv_q {σC σM τM : Sto} {v : Int32} (h : Inv σC σM) (hM : AgM σM τM) (hv : v ≠ 4) : Inv (si σC 0 18 v) (si (si τM 0 1 v) 0 2 (-1)) := by
  have hC : AgC σC (si σC 0 18 v) := AgC_si σC 0 18 v (by omega)
  have hM' : AgM σM (si (si τM 0 1 v) 0 2 (-1)) := AgM_tr hM (AgM_tr (AgM_si _ 0 1 v (by omega)) (AgM_si _ 0 2 _ (by omega)))
  obtain ⟨g, q, z, l⟩ := h
  refine ⟨Gl_ag hC hM' g, ?_, Mz_ag hM' z, ?_⟩
  · refine ⟨?_, ?_, ?_⟩
    · rw [si_rd, si_rd, si_rd]; simp
    · rw [hC.1 _ _ (by omega), hM'.1 _ _ (by omega)]; exact q.2.1
    · simp only [si_rd]; simp [hv]
  · rcases l with l | ⟨n, nb, t, h, ac, μ, un, l, c⟩
    · exact Or.inl (Ul_ag (AgC_l hC) (AgM_l hM') l)
    · refine Or.inr ⟨n, nb, t, h, ac, μ, un, Ld_ag (AgC_l hC) (AgM_l hM') l, Ca_ag (fun a h1 h2 => ?_) c⟩
      funext j
      rw [si_rd, if_neg (by omega)]
theorem Inv_0 {σC σM : Sto} (h : Inv σC σM) : Inv σC (si σM 0 0 0) := by
  have hM : AgM σM (si σM 0 0 0) := AgM_si _ 0 0 _ (by omega)
  obtain ⟨g, q, z, l⟩ := h
  refine ⟨Gl_ag (AgC_rfl _) hM g, ?_, Mz_ag hM z, ?_⟩
  · unfold Tq at *
    simp only [si_rd]
    simp
    exact q
  · rcases l with l | ⟨n, nb, t, h, ac, μ, un, l, c⟩
    · exact Or.inl (Ul_ag (AgC_l (AgC_rfl _)) (AgM_l hM) l)
    · exact Or.inr ⟨n, nb, t, h, ac, μ, un, Ld_ag (AgC_l (AgC_rfl _)) (AgM_l hM) l, c⟩
