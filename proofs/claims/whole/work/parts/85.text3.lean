/-! A TEXT, BOTH SIDES -/
theorem tx_bad {σC s1 σ' τ : Sto} {t t' : Nat} (h : Inv σC s1) (ht' : t' = 102 ∨ t' = 110) (e11 : σC.2.2 0 11 = some t) (htt : t = 102 ∧ t' = 110 ∨ t = 110 ∧ t' = 102) (cO : ∀ a k, a ≠ 2 → ¬ (t' ≤ a ∧ a ≤ t' + 4) → σ'.1 a k = σC.1 a k) (cL : ∀ a k, a ≠ 2 → a ≠ t' + 1 → σ'.2.1 a k = σC.2.1 a k) (cR : ∀ a k, a ≠ 2 → σ'.2.2 a k = σC.2.2 a k) (mO : ∀ a k, ¬ (a = 0 ∧ ((4 ≤ k ∧ k ≤ 12) ∨ k = 23 ∨ k = 29 ∨ k = 30)) → a ≠ 3 → a ≠ 11 → τ.1 a k = s1.1 a k) (m04 : τ.1 0 4 = 0) (mL : ∀ a k, a ≠ 0 → a ≠ 8 → τ.2.1 a k = s1.2.1 a k) (g34 : σ'.1 2 8 = τ.1 0 7) (g5 : σ'.1 2 9 = τ.1 0 8) : Inv (si (si (si (si σ' 0 14 0) 0 16 (σ'.1 2 8)) 0 17 (σ'.1 2 9)) 0 18 4) (si (si τ 0 1 4) 0 2 (τ.1 0 8)) := by
  obtain ⟨⟨⟨m, m1, m2, m3, m4⟩, ⟨w, w1, w2, w3, w4⟩, tn, ⟨hd, hd1, hd2⟩⟩, tq, mz, ld⟩ := id h
  have cF : ∀ a k, ¬ (a = 0 ∧ (k = 14 ∨ k = 16 ∨ k = 17 ∨ k = 18)) → (si (si (si (si σ' 0 14 0) 0 16 (σ'.1 2 8)) 0 17 (σ'.1 2 9)) 0 18 4).1 a k = σ'.1 a k := fun a k q => by
    simp (disch := omega) only [si_rd, if_neg]
  have mF : ∀ a k, ¬ (a = 0 ∧ (k = 1 ∨ k = 2)) → (si (si τ 0 1 4) 0 2 (τ.1 0 8)).1 a k = τ.1 a k := fun a k q => by
    simp (disch := omega) only [si_rd, if_neg]
  refine ⟨⟨⟨0, by omega, ?_, ?_, fun i hi => by omega⟩, ⟨w, w1, ?_, ?_, fun i hi => ?_⟩, ?_, ⟨hd, hd1, ?_⟩⟩, ⟨?_, ?_, ?_⟩, ⟨?_, ?_⟩, ?_⟩
  · rw [si_rd, if_neg (by omega), si_rd, if_neg (by omega), si_rd, if_neg (by omega), si_rd, if_pos ⟨rfl, rfl⟩]; rfl
  · rw [mF _ _ (by omega), m04]; rfl
  · rw [cF _ _ (by omega), cO _ _ (by omega) (by omega)]; exact w2
  · rw [mF _ _ (by omega), mO _ _ (by omega) (by omega) (by omega)]; exact w3
  · rw [cF _ _ (by omega), cO _ _ (by omega) (by omega), mF _ _ (by omega), mO _ _ (by omega) (by omega) (by omega)]; exact w4 i hi
  · have r1 := cR 0 11 (by omega)
    have r2 := cR 0 12 (by omega)
    unfold Tn at *
    show (σ'.2.2 0 11 = _ ∧ σ'.2.2 0 12 = _) ∨ (σ'.2.2 0 11 = _ ∧ σ'.2.2 0 12 = _)
    rw [r1, r2]
    exact tn
  · rw [cF _ _ (by omega), cO _ _ (by omega) (by omega)]; exact hd2
  · rw [si_rd, if_pos ⟨rfl, rfl⟩, si_rd, if_neg (by omega), si_rd, if_pos ⟨rfl, rfl⟩]
  · rw [si_rd, if_neg (by omega), si_rd, if_neg (by omega), si_rd, if_pos ⟨rfl, rfl⟩, mF _ _ (by omega)]; exact g34
  · have e18 : (si (si (si (si σ' 0 14 0) 0 16 (σ'.1 2 8)) 0 17 (σ'.1 2 9)) 0 18 4).1 0 18 = 4 := by rw [si_rd, if_pos ⟨rfl, rfl⟩]
    have e17 : (si (si (si (si σ' 0 14 0) 0 16 (σ'.1 2 8)) 0 17 (σ'.1 2 9)) 0 18 4).1 0 17 = σ'.1 2 9 := by rw [si_rd, if_neg (by omega), si_rd, if_pos ⟨rfl, rfl⟩]
    have e2 : (si (si τ 0 1 4) 0 2 (τ.1 0 8)).1 0 2 = τ.1 0 8 := by rw [si_rd, if_pos ⟨rfl, rfl⟩]
    rw [e18, e17, e2, if_pos rfl]; exact g5.symm
  · rw [mF _ _ (by omega), mO _ _ (by omega) (by omega) (by omega)]; exact mz.1
  · rw [mF _ _ (by omega), mO _ _ (by omega) (by omega) (by omega)]; exact mz.2
  · rcases ld with ⟨u1, u2⟩ | ⟨n, nb, t2, h2, ac, μ, un, l, ca⟩
    · refine Or.inl ⟨?_, ?_⟩
      · rw [cF _ _ (by omega), cO _ _ (by omega) (by omega)]; exact u1
      · rw [mF _ _ (by omega), mO _ _ (by omega) (by omega) (by omega)]; exact u2
    · have et : t2 = t := by
        have := l.1.2.2.1
        rw [e11] at this
        exact (Option.some.inj this).symm
      subst et
      refine Or.inr ⟨n, nb, t2, h2, ac, μ, un, Ld_sp (fun a k q => ?_) ?_ (cR 0 11 (by omega)) (fun a k q => ?_) ?_ l, Ca_ag (fun a i1 i2 => funext fun k => ?_) ca⟩
      · rw [cF _ _ (by omega)]; exact cO a k (by omega) (by omega)
      · exact funext fun k => cL _ k (by omega) (by omega)
      · rw [mF _ _ (by omega)]; exact mO a k (by omega) (by omega) (by omega)
      · exact funext fun k => mL _ k (by omega) (by omega)
      · rw [cF _ _ (by omega)]; exact cO a k (by omega) (by omega)
theorem tx_good {σC s1 σ' τ s4 x τ' : Sto} {t t' n nb : Nat} (h : Inv σC s1) (ht' : t' = 102 ∨ t' = 110) (htt : t = 102 ∧ t' = 110 ∨ t = 110 ∧ t' = 102) (hn : 1 ≤ n ∧ n ≤ 4 ∧ nb ≤ 4) (cO : ∀ a k, a ≠ 2 → ¬ (t' ≤ a ∧ a ≤ t' + 4) → σ'.1 a k = σC.1 a k) (mO : ∀ a k, ¬ (a = 0 ∧ ((4 ≤ k ∧ k ≤ 12) ∨ k = 23 ∨ k = 29 ∨ k = 30)) → a ≠ 3 → a ≠ 11 → τ.1 a k = s1.1 a k) (m04 : τ.1 0 4 = 0) (g8 : σ'.1 2 8 = 0) (g9 : τ.1 0 7 = 0) (d : Dt σ' τ t' n nb)
    (k1 : ∀ a k, ¬ (a = 0 ∧ (k = 14 ∨ k = 16)) → s4.1 a k = σ'.1 a k) (k2 : s4.1 0 14 = 0) (k3 : s4.1 0 16 = 0) (k4 : s4.2.1 = σ'.2.1) (k5 : s4.2.2 0 11 = some t' ∧ s4.2.2 0 12 = some t) (gn : σ'.1 t' 0 = zI n) (gb : σ'.1 t' 1 = zI nb) (gm : τ.1 0 23 = zI n) (gmb : τ.1 0 29 = zI nb)
    (b2 : TR x t' (fun k => (τ.1 3 k).toInt) n) (b3 : x.1 3 0 = 0 ∧ x.1 3 1 = 0) (b4 : ∀ i, i < 4 → x.1 4 i = s4.1 (t' + 2) i ∧ x.1 5 i = s4.1 (t' + 2) i ∧ x.1 6 i = s4.1 (t' + 2) (16 + i) ∧ x.1 7 i = s4.1 (t' + 4) i) (b5 : ∀ a k, ¬ (3 ≤ a ∧ a ≤ 7) → ¬ (t' + 5 ≤ a ∧ a ≤ t' + 7) → x.1 a k = (si s4 0 13 1).1 a k) (b6 : x.2 = s4.2)
    (c2 : ∀ k, k < 534 → τ'.1 2 k = τ.1 3 k) (c3 : ∀ k, k < 4 → τ'.2.1 7 k = τ.2.1 8 k) (c4 : τ'.1 0 22 = τ.1 0 23 ∧ τ'.1 0 28 = τ.1 0 29) (c5 : ∀ k, k < 16 → τ'.1 10 k = τ.1 11 k) (c6 : ∀ a k, a ≠ 2 → a ≠ 10 → ¬ (a = 0 ∧ (k = 22 ∨ k = 28)) → τ'.1 a k = τ.1 a k) : Inv (si (fgt x) 0 18 0) (fin248 τ') := by
  obtain ⟨⟨-, ⟨w, w1, w2, w3, w4⟩, tn, ⟨hd, hd1, hd2⟩⟩, tq, mz, -⟩ := id h
  have gd := Dt_Gd d ⟨hn.1, hn.2.1⟩
  have xO : ∀ a k, ¬ (3 ≤ a ∧ a ≤ 7) → ¬ (t' + 5 ≤ a ∧ a ≤ t' + 7) → ¬ (a = 0 ∧ (k = 13 ∨ k = 14 ∨ k = 16)) → x.1 a k = σ'.1 a k := fun a k q1 q2 q3 => by
    rw [b5 a k q1 q2, si_rd, if_neg (by omega)]; exact k1 a k (by omega)
  have x0 : ∀ k, k ≠ 13 → x.1 0 k = s4.1 0 k := fun k q => by rw [b5 0 k (by omega) (by omega), si_rd, if_neg (by omega)]
  have fO : ∀ a k, ¬ (a = 0 ∧ k = 18) → (si (fgt x) 0 18 0).1 a k = (fgt x).1 a k := fun a k q => by rw [si_rd, if_neg q]
  have mF : ∀ a k, a ≠ 2 → a ≠ 10 → a ≠ 9 → ¬ (a = 0 ∧ (k = 22 ∨ k = 28 ∨ k = 24 ∨ k = 25 ∨ k = 1 ∨ k = 2)) → (fin248 τ').1 a k = τ.1 a k := fun a k q1 q2 q3 q4 => by
    rw [f248_o τ' ⟨by omega, q3⟩]; exact c6 a k q1 q2 (by omega)
  have m32 : (τ.1 3 32).toInt = 0 := by rw [d.2.2.1.2.1]; rfl
  have m33 : (τ.1 3 33).toInt = 0 := by rw [d.2.2.1.2.2]; rfl
  refine ⟨⟨⟨0, by omega, ?_, ?_, fun i hi => by omega⟩, ⟨w, w1, ?_, ?_, fun i hi => ?_⟩, ?_, ⟨hd, hd1, ?_⟩⟩, ⟨?_, ?_, ?_⟩, ⟨?_, ?_⟩, Or.inr ⟨n, nb, t', hd, 0, fun k => (τ.1 3 k).toInt, fun b s => (τ.1 11 (4 * b + s)).toInt, ⟨⟨?_, ?_, ?_, ht'⟩, ⟨?_, ?_, ?_⟩, ⟨fun k hk => ?_, ?_⟩, ⟨⟨fun s hs => ⟨?_, ?_, ?_⟩, fun r hr => ?_, ?_⟩, ?_⟩, ?_, ⟨hn.2.2, ?_, ?_, fun b hb s hs => ?_⟩, fun s hs => ?_, ?_, ⟨by omega, hd1, ?_, ?_, ?_, fun i hi => by omega, fun i j _ hj => by omega⟩, fun i hi => Or.inl ⟨?_, ?_⟩⟩, Ca_fgt x 0 n nb _ _⟩⟩
  · rw [fO _ _ (by omega), fgt_o x (by omega), x0 14 (by omega), k2]; rfl
  · rw [mF _ _ (by omega) (by omega) (by omega) (by omega), m04]; rfl
  · rw [fO _ _ (by omega), fgt_o x (by omega), xO _ _ (by omega) (by omega) (by omega), cO _ _ (by omega) (by omega)]; exact w2
  · rw [mF _ _ (by omega) (by omega) (by omega) (by omega), mO _ _ (by omega) (by omega) (by omega)]; exact w3
  · rw [fO _ _ (by omega), fgt_o x (by omega), xO _ _ (by omega) (by omega) (by omega), cO _ _ (by omega) (by omega), mF _ _ (by omega) (by omega) (by omega) (by omega), mO _ _ (by omega) (by omega) (by omega)]; exact w4 i hi
  · unfold Tn
    rw [show (si (fgt x) 0 18 0).2 = x.2 from rfl, b6, k5.1, k5.2]
    rcases htt with ⟨a, b⟩ | ⟨a, b⟩
    · exact Or.inr ⟨by rw [b], by rw [a]⟩
    · exact Or.inl ⟨by rw [b], by rw [a]⟩
  · rw [fO _ _ (by omega), fgt_o x (by omega), xO _ _ (by omega) (by omega) (by omega), cO _ _ (by omega) (by omega)]; exact hd2
  · rw [si_rd, if_pos ⟨rfl, rfl⟩]; unfold fin248; rw [si_rd, if_neg (by omega), si_rd, if_pos ⟨rfl, rfl⟩]
  · rw [fO _ _ (by omega), fgt_o x (by omega), x0 16 (by omega), k3, mF _ _ (by omega) (by omega) (by omega) (by omega), g9]
  · have e18 : (si (fgt x) 0 18 0).1 0 18 = 0 := by rw [si_rd, if_pos ⟨rfl, rfl⟩]
    rw [e18, if_neg (by decide)]; unfold fin248; rw [si_rd, if_pos ⟨rfl, rfl⟩]
  · rw [mF _ _ (by omega) (by omega) (by omega) (by omega), mO _ _ (by omega) (by omega) (by omega)]; exact mz.1
  · rw [mF _ _ (by omega) (by omega) (by omega) (by omega), mO _ _ (by omega) (by omega) (by omega)]; exact mz.2
  · rw [fO _ _ (by omega), fgt_o x (by omega), b5 0 13 (by omega) (by omega), si_rd, if_pos ⟨rfl, rfl⟩]
  · unfold fin248; rw [si_rd, if_neg (by omega), si_rd, if_neg (by omega), si_rd, if_neg (by omega), si_rd, if_neg (by omega), si_rd, if_pos ⟨rfl, rfl⟩]
  · rw [show (si (fgt x) 0 18 0).2 = x.2 from rfl, b6]; exact k5.1
  · show Gd _ n (τ.1 3 32).toInt.toNat
    rw [m32]; exact gd
  · show 0 ≤ (τ.1 3 32).toInt
    omega
  · show (τ.1 3 32).toInt ≤ 99
    omega
  · rw [f248_o τ' ⟨by omega, by omega⟩, c2 k (by omega), zI_toInt]
  · rw [f248_o τ' ⟨by omega, by omega⟩, c4.1]; exact gm
  · rw [fO _ _ (by omega), fgt_o x (by omega), (b4 s (by omega)).1, k1 _ _ (by omega)]
    exact (ve_to (d.2.1.1 s hs).1 (by decide)).1
  · rw [fO _ _ (by omega), fgt_o x (by omega), (b4 s (by omega)).2.1, k1 _ _ (by omega)]
    show _ = zI (τ.1 3 (7 * s + 1)).toInt
    rw [(d.2.1.1 s hs).2.1]
    exact (ve_to (d.2.1.1 s hs).1 (by decide)).1
  · rw [fO _ _ (by omega), fgt_o x (by omega), (b4 s (by omega)).2.2.1, k1 _ _ (by omega)]
    exact (ve_to (d.2.1.1 s hs).2.2.2.2.2.1 (by decide)).1
  · rw [fO _ _ (by omega), fgt_o x (by omega), (b4 r hr).2.2.2, k1 _ _ (by omega)]
    exact (ve_to (d.2.2.1.1 r hr) (mxR_bd hr).2).1
  · rw [fO _ _ (by omega), fgt_o x (by omega), b3.2]
    show _ = zI (τ.1 3 33).toInt
    rw [m33]; rfl
  · rw [fO _ _ (by omega), fgt_o x (by omega), b3.1]
    show _ = zI (τ.1 3 32).toInt
    rw [m32]; rfl
  · exact TR_fr b2 (fun a k i1 i2 => by rw [fO _ _ (by omega), fgt_o x (by omega)])
  · rw [fO _ _ (by omega), fgt_o x (by omega), xO _ _ (by omega) (by omega) (by omega)]; exact gb
  · rw [f248_o τ' ⟨by omega, by omega⟩, c4.2]; exact gmb
  · have v := ve_to (d.2.2.2.1 b hb s hs) (by decide)
    rw [fO _ _ (by omega), fgt_o x (by omega), xO _ _ (by omega) (by omega) (by omega), f248_o τ' ⟨by omega, by omega⟩, c5 _ (by omega), zI_toInt]
    rw [zI_toInt] at v
    exact ⟨v.1, rfl, v.2⟩
  · obtain ⟨l, l1, l2, l3⟩ := d.1.1 s hs
    have e1 : (si (fgt x) 0 18 0).2.1 (t' + 1) s = Int64.ofInt (nmV l) := by
      rw [show (si (fgt x) 0 18 0).2 = x.2 from rfl, b6, k4]; exact l2
    have e2 : (fin248 τ').2.1 7 s = Int64.ofInt (nmV l) := by
      rw [show (fin248 τ').2 = τ'.2 from rfl, c3 s (by omega)]; exact l3
    exact ⟨e1.trans e2.symm, l, l1.1, l1.2.1, l1.2.2, e2⟩
  · intro y hy
    have hy' : y < (τ.1 3 32).toInt.toNat := hy
    rw [m32] at hy'
    exact absurd hy' (by omega)
  · rw [fO _ _ (by omega), fgt_o x (by omega), xO _ _ (by omega) (by omega) (by omega), cO _ _ (by omega) (by omega)]; exact hd2
  · rw [fO _ _ (by omega)]; unfold fgt; simp (disch := omega) only [si_rd, if_neg, if_pos, and_self, if_true]; rfl
  · unfold fin248; rw [si_rd, if_neg (by omega), si_rd, if_neg (by omega), si_rd, if_neg (by omega), si_rd, if_neg (by omega), si_rd, if_neg (by omega), si_rd, if_pos ⟨rfl, rfl⟩]; rfl
  · rw [fO _ _ (by omega)]
    rcases (show i = 0 ∨ i = 1 by omega) with rfl | rfl
    · unfold fgt; simp (disch := omega) only [si_rd, if_neg, if_pos, and_self, if_true]
    · unfold fgt; simp (disch := omega) only [si_rd, if_neg, if_pos, and_self, if_true]
  · rcases (show i = 0 ∨ i = 1 by omega) with rfl | rfl
    · unfold fin248; rw [si_rd, if_neg (by omega), si_rd, if_neg (by omega), si_rd, if_neg (by omega), si_rd, if_pos ⟨rfl, rfl⟩]
    · unfold fin248; rw [si_rd, if_neg (by omega), si_rd, if_neg (by omega), si_rd, if_pos ⟨rfl, rfl⟩]
