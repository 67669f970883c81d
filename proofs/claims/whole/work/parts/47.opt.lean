/-! ROWS: THE FIRST OF THE GREATEST -/
theorem Lex_or {a b : Nat → Int} : ∀ {n : Nat}, (∀ s, s < n → a s ≤ b s) → (∀ s, s < n → a s = b s) ∨ Lex n a b
  | 0, _ => Or.inl (fun s hs => absurd hs (Nat.not_lt_zero s))
  | n + 1, h => by
    rcases Lex_or (n := n) (fun s hs => h s (Nat.lt_succ_of_lt hs)) with e | ⟨s, h1, h2, h3⟩
    · have q := h n (Nat.lt_succ_self n)
      by_cases q2 : a n = b n
      · refine Or.inl (fun s hs => ?_)
        by_cases q3 : s = n
        · rw [q3]; exact q2
        · exact e s (by omega)
      · exact Or.inr ⟨n, Nat.lt_succ_self n, e, by omega⟩
    · exact Or.inr ⟨s, by omega, h2, h3⟩
theorem Lex_le {n : Nat} {a b c : Nat → Int} (h : Lex n a b) (k : ∀ s, s < n → b s ≤ c s) : Lex n a c := by
  obtain ⟨s, h1, h2, h3⟩ := h
  rcases Lex_or (a := b) (b := c) (n := s) (fun t ht => k t (by omega)) with e | ⟨u, u1, u2, u3⟩
  · have := k s h1
    exact ⟨s, h1, fun i hi => (h2 i hi).trans (e i hi), by omega⟩
  · refine ⟨u, by omega, fun i hi => (h2 i (by omega)).trans (u2 i hi), ?_⟩
    rw [h2 u u1]; exact u3
theorem Lex_cg {n : Nat} {a b a' b' : Nat → Int} (h : Lex n a b) (ha : ∀ s, s < n → a' s = a s) (hb : ∀ s, s < n → b' s = b s) : Lex n a' b' := by
  obtain ⟨s, h1, h2, h3⟩ := h
  refine ⟨s, h1, fun i hi => ?_, ?_⟩
  · rw [ha i (by omega), hb i (by omega)]; exact h2 i hi
  · rw [ha s h1, hb s h1]; exact h3
theorem Lex_no {n : Nat} {a b : Nat → Int} (h : Lex n a b) (k : Lex n b a) : False := by
  obtain ⟨s, h1, h2, h3⟩ := h
  obtain ⟨u, u1, u2, u3⟩ := k
  rcases Nat.lt_trichotomy s u with q | q | q
  · have := u2 s q; omega
  · subst q; omega
  · have := h2 u q; omega
theorem vl_cg {n : Nat} {w : Nat → Nat → Int} {a b : Nat → Int} (h : ∀ s, s < n → a s = b s) : vl n w a = vl n w b := sz_cg (fun s hs => by rw [h s hs])
def BsR (En : (Nat → Int) → (Nat → Int32) → Prop) (n : Nat) (w : Nat → Nat → Int) (C : (Nat → Int) → Prop) (G : Int) (F : Nat → Int32) (G' : Int) (F' : Nat → Int32) : Prop :=
  (G' = G ∧ F' = F ∧ ∀ q, C q → vl n w q ≤ G) ∨ (∃ q, C q ∧ En q F' ∧ G' = vl n w q ∧ G < G' ∧ ∀ p, C p → vl n w p ≤ vl n w q ∧ (vl n w p = vl n w q → (∀ s, s < n → p s = q s) ∨ Lex n q p))
theorem BsR_none {En : (Nat → Int) → (Nat → Int32) → Prop} {n : Nat} {w : Nat → Nat → Int} {C : (Nat → Int) → Prop} {G : Int} {F : Nat → Int32} (h : ∀ q, C q → vl n w q ≤ G) : BsR En n w C G F G F := Or.inl ⟨rfl, rfl, h⟩
theorem BsR_cg {En : (Nat → Int) → (Nat → Int32) → Prop} {n : Nat} {w : Nat → Nat → Int} {C D : (Nat → Int) → Prop} {G G' : Int} {F F' : Nat → Int32} (h : ∀ q, C q ↔ D q) (k : BsR En n w C G F G' F') : BsR En n w D G F G' F' := by
  have e : C = D := funext (fun q => propext (h q))
  rw [← e]; exact k
theorem BsR_tr {En : (Nat → Int) → (Nat → Int32) → Prop} {n : Nat} {w : Nat → Nat → Int} {C D : (Nat → Int) → Prop} {G G1 G2 : Int} {F F1 F2 : Nat → Int32} (h : BsR En n w C G F G1 F1) (k : BsR En n w D G1 F1 G2 F2) (hl : ∀ p q, C p → D q → Lex n p q) : BsR En n w (fun q => C q ∨ D q) G F G2 F2 := by
  rcases h with ⟨h1, h2, h3⟩ | ⟨q, h1, h2, h3, h4, h5⟩
  · rcases k with ⟨k1, k2, k3⟩ | ⟨r, k1, k2, k3, k4, k5⟩
    · refine Or.inl ⟨k1.trans h1, k2.trans h2, fun q hq => ?_⟩
      rcases hq with hq | hq
      · exact h3 q hq
      · rw [← h1]; exact k3 q hq
    · refine Or.inr ⟨r, Or.inr k1, k2, k3, by omega, fun p hp => ?_⟩
      rcases hp with hp | hp
      · have := h3 p hp
        exact ⟨by omega, fun e => absurd e (by omega)⟩
      · exact k5 p hp
  · rcases k with ⟨k1, k2, k3⟩ | ⟨r, k1, k2, k3, k4, k5⟩
    · refine Or.inr ⟨q, Or.inl h1, by rw [k2]; exact h2, by omega, by omega, fun p hp => ?_⟩
      rcases hp with hp | hp
      · exact h5 p hp
      · have := k3 p hp
        exact ⟨by omega, fun _ => Or.inr (hl q p h1 hp)⟩
    · refine Or.inr ⟨r, Or.inr k1, k2, k3, by omega, fun p hp => ?_⟩
      rcases hp with hp | hp
      · have := (h5 p hp).1
        exact ⟨by omega, fun e => absurd e (by omega)⟩
      · exact k5 p hp
theorem Opt_un {n L : Nat} {ld : Nat → Nat → Int} {rm lo hi : Nat → Int} {w : Nat → Nat → Int} {r q : Nat → Int} (h : Opt n L ld rm lo hi w r) (k : Opt n L ld rm lo hi w q) : ∀ s, s < n → q s = r s := by
  have a := h.2 q k.1
  have b := k.2 r h.1
  have e : vl n w q = vl n w r := by omega
  rcases a.2 e with a | a
  · exact a
  · rcases b.2 e.symm with b | b
    · exact fun s hs => (b s hs).symm
    · exact (Lex_no a b).elim
theorem Fea_cg {n L : Nat} {ld : Nat → Nat → Int} {rm lo hi : Nat → Int} {r q : Nat → Int} (e : ∀ s, s < n → q s = r s) (h : Fea n L ld rm lo hi r) : Fea n L ld rm lo hi q := by
  refine ⟨fun s hs => ?_, fun c hc => ?_⟩
  · rw [e s hs]; exact h.1 s hs
  · rw [sz_cg (g := fun s => ld c s * r s) (fun s hs => by rw [e s hs])]; exact h.2 c hc
theorem Opt_cg {n L : Nat} {ld : Nat → Nat → Int} {rm lo hi : Nat → Int} {w : Nat → Nat → Int} {r q : Nat → Int} (h : Opt n L ld rm lo hi w r) (e : ∀ s, s < n → q s = r s) : Opt n L ld rm lo hi w q := by
  refine ⟨Fea_cg e h.1, fun p hp => ?_⟩
  rw [vl_cg e]
  refine ⟨(h.2 p hp).1, fun k => ?_⟩
  rcases (h.2 p hp).2 k with a | a
  · exact Or.inl (fun s hs => (a s hs).trans (e s hs).symm)
  · exact Or.inr (Lex_cg a e (fun _ _ => rfl))
/-- the same rows keep both -/
theorem Opt_fe {n L L' : Nat} {ld ld' : Nat → Nat → Int} {rm rm' lo lo' hi hi' : Nat → Int} {w : Nat → Nat → Int} {r : Nat → Int} (e : ∀ q, Fea n L ld rm lo hi q ↔ Fea n L' ld' rm' lo' hi' q) (h : Opt n L ld rm lo hi w r) : Opt n L' ld' rm' lo' hi' w r :=
  ⟨(e r).1 h.1, fun q hq => h.2 q ((e q).2 hq)⟩
theorem Opt_bs {En : (Nat → Int) → (Nat → Int32) → Prop} {n L : Nat} {ld : Nat → Nat → Int} {rm lo hi : Nat → Int} {w : Nat → Nat → Int} {G G' : Int} {F F' : Nat → Int32} (h : BsR En n w (Fea n L ld rm lo hi) G F G' F') (k : ∀ q, Fea n L ld rm lo hi q → G < vl n w q) : (G' = G ∧ ∀ q, ¬ Fea n L ld rm lo hi q) ∨ ∃ q, Opt n L ld rm lo hi w q ∧ En q F' ∧ G' = vl n w q := by
  rcases h with ⟨h1, h2, h3⟩ | ⟨q, h1, h2, h3, h4, h5⟩
  · exact Or.inl ⟨h1, fun q hq => absurd (h3 q hq) (by have := k q hq; omega)⟩
  · exact Or.inr ⟨q, ⟨h1, h5⟩, h2, h3⟩
/-! STAIRS -/
def SrB (n L : Nat) (ld : Nat → Nat → Int) (lo hi : Nat → Int) (w : Nat → Nat → Int) : Prop := (1 ≤ n ∧ n ≤ 4) ∧ (1 ≤ L ∧ L ≤ 5) ∧ (∀ c, c < L → ∀ s, s < n → 0 ≤ ld c s ∧ ld c s ≤ 200) ∧ (∀ s, s < n → 0 ≤ lo s ∧ lo s ≤ hi s ∧ hi s ≤ 20) ∧ ∀ s, s < n → ∀ p, p ≤ 20 → -4000 ≤ w s p ∧ w s p ≤ 8000
def StpR (n : Nat) (lo hi : Nat → Int) (w : Nat → Nat → Int) (st : Nat → Nat) (rs : Nat → Nat → Int) (un : Nat → Nat → Nat) : Prop := ∀ s, s < n → (1 ≤ st s ∧ st s ≤ 21) ∧ (∀ i, i < st s → 0 ≤ rs s i ∧ rs s i ≤ hi s - lo s) ∧ (∀ i j, i < j → j < st s → rs s i < rs s j ∧ w s (lo s + rs s i).toNat < w s (lo s + rs s j).toNat) ∧ ∀ f : Nat, (f : Int) ≤ hi s - lo s → un s f < st s ∧ rs s (un s f) ≤ f ∧ (∀ g : Nat, g ≤ f → w s (lo s + g).toNat ≤ w s (lo s + rs s (un s f)).toNat) ∧ ∀ i, i < st s → rs s i ≤ f → i ≤ un s f
/-- rows of stairs that keep the lines -/
def StRF (n L : Nat) (ld : Nat → Nat → Int) (R0 lo : Nat → Int) (st : Nat → Nat) (rs : Nat → Nat → Int) (q : Nat → Int) : Prop := (∀ s, s < n → ∃ i, i < st s ∧ q s = lo s + rs s i) ∧ ∀ c, c < L → sz n (fun s => ld c s * (q s - lo s)) ≤ R0 c
def EnRS (n : Nat) (lo : Nat → Int) (st : Nat → Nat) (rs : Nat → Nat → Int) (q : Nat → Int) (F : Nat → Int32) : Prop := ∀ s, s < n → ∃ i : Nat, i < st s ∧ F s = zI i ∧ q s = lo s + rs s i
theorem sz_sub (f g : Nat → Int) : ∀ (n : Nat), sz n (fun i => f i - g i) = sz n f - sz n g
  | 0 => rfl
  | n + 1 => by rw [sz, sz, sz, sz_sub f g n]; omega
theorem sz_nn {f : Nat → Int} : ∀ {n : Nat}, (∀ i, i < n → 0 ≤ f i) → 0 ≤ sz n f
  | 0, _ => Int.le_refl _
  | n + 1, h => by
    have := sz_nn (n := n) (fun i hi => h i (Nat.lt_succ_of_lt hi))
    have := h n (Nat.lt_succ_self n)
    rw [sz]; omega
theorem sz_mono {f : Nat → Int} {m : Nat} : ∀ {n : Nat}, m ≤ n → (∀ i, i < n → 0 ≤ f i) → sz m f ≤ sz n f
  | 0, h, _ => by rw [show m = 0 by omega]; exact Int.le_refl _
  | n + 1, h, k => by
    by_cases q : m = n + 1
    · rw [q]; exact Int.le_refl _
    · have := sz_mono (n := n) (f := f) (m := m) (by omega) (fun i hi => k i (by omega))
      have := k n (Nat.lt_succ_self n)
      rw [sz]; omega
/-- the best row of stairs is the best row -/
theorem Opt_st {n L : Nat} {ld : Nat → Nat → Int} {rm lo hi : Nat → Int} {w : Nat → Nat → Int} {st : Nat → Nat} {rs : Nat → Nat → Int} {un : Nat → Nat → Nat} {r : Nat → Int} (b : SrB n L ld lo hi w) (S : StpR n lo hi w st rs un)
    (h : StRF n L ld (fun c => rm c - sz n (fun s => ld c s * lo s)) lo st rs r) (k : ∀ p, StRF n L ld (fun c => rm c - sz n (fun s => ld c s * lo s)) lo st rs p → vl n w p ≤ vl n w r ∧ (vl n w p = vl n w r → (∀ s, s < n → p s = r s) ∨ Lex n r p)) : Opt n L ld rm lo hi w r := by
  obtain ⟨b1, b2, b3, b4, b5⟩ := b
  have ex : ∀ (q : Nat → Int) (c : Nat), sz n (fun s => ld c s * (q s - lo s)) = sz n (fun s => ld c s * q s) - sz n (fun s => ld c s * lo s) := by
    intro q c
    rw [← sz_sub]
    exact sz_cg (fun s _ => Int.mul_sub _ _ _)
  refine ⟨⟨fun s hs => ?_, fun c hc => ?_⟩, fun q hq => ?_⟩
  · obtain ⟨i, i1, i2⟩ := h.1 s hs
    have := (S s hs).2.1 i i1
    have := b4 s hs
    omega
  · have := h.2 c hc
    rw [ex] at this
    dsimp only at this
    omega
  · let p : Nat → Int := fun s => lo s + rs s (un s (q s - lo s).toNat)
    have hp : ∀ s, s < n → ∃ f : Nat, (f : Int) = q s - lo s ∧ (f : Int) ≤ hi s - lo s ∧ p s = lo s + rs s (un s f) := by
      intro s hs
      have := hq.1 s hs
      exact ⟨(q s - lo s).toNat, by omega, by omega, rfl⟩
    have ple : ∀ s, s < n → p s ≤ q s := by
      intro s hs
      obtain ⟨f, f1, f2, f3⟩ := hp s hs
      have := ((S s hs).2.2.2 f f2).2.1
      omega
    have pv : vl n w q ≤ vl n w p := by
      refine sz_le (fun s hs => ?_)
      obtain ⟨f, f1, f2, f3⟩ := hp s hs
      have := ((S s hs).2.2.2 f f2).2.2.1 f (Nat.le_refl _)
      rw [f3, show q s = lo s + f by omega]
      exact this
    have pf : StRF n L ld (fun c => rm c - sz n (fun s => ld c s * lo s)) lo st rs p := by
      refine ⟨fun s hs => ?_, fun c hc => ?_⟩
      · obtain ⟨f, f1, f2, f3⟩ := hp s hs
        exact ⟨_, ((S s hs).2.2.2 f f2).1, f3⟩
      · rw [ex]
        have e : sz n (fun s => ld c s * p s) ≤ sz n (fun s => ld c s * q s) := sz_le (fun s hs => Int.mul_le_mul_of_nonneg_left (ple s hs) (b3 c hc s hs).1)
        have := hq.2 c hc
        show _ ≤ rm c - _
        omega
    have kp := k p pf
    refine ⟨by omega, fun e => ?_⟩
    rcases kp.2 (by omega) with a | a
    · rcases Lex_or ple with c | c
      · exact Or.inl (fun s hs => (c s hs).symm.trans (a s hs))
      · exact Or.inr (Lex_cg c (fun s hs => (a s hs).symm) (fun _ _ => rfl))
    · exact Or.inr (Lex_le a ple)
