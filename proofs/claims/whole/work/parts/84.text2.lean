/-! A TEXT, ANSWERED -/
theorem fgt_o (x : Sto) {a k : Nat} (h : ¬ (a = 10 ∧ k = 2) ∧ ¬ (a = 118 ∧ k = 0) ∧ ¬ (a = 126 ∧ k = 0) ∧ ¬ (75 ≤ a ∧ a ≤ 84)) : (fgt x).1 a k = x.1 a k := by
  unfold fgt
  simp (disch := omega) only [si_rd, if_neg]
theorem f248_o (τ : Sto) {a k : Nat} (h : ¬ (a = 0 ∧ (k = 24 ∨ k = 25 ∨ k = 1 ∨ k = 2)) ∧ a ≠ 9) : (fin248 τ).1 a k = τ.1 a k := by
  unfold fin248
  simp (disch := omega) only [si_rd, if_neg]
theorem Ca_fgt (x : Sto) (v : Int32) (n nb : Nat) (μ : Nat → Int) (un : Nat → Nat → Int) : Ca (si (fgt x) 0 18 v) n nb μ un := by
  have e : ∀ a k, a ≠ 0 → (si (fgt x) 0 18 v).1 a k = (fgt x).1 a k := fun a k q => by rw [si_rd, if_neg (by omega)]
  have c76 : (fgt x).1 76 0 = 0 := by unfold fgt; simp (disch := omega) only [si_rd, if_neg, if_pos, and_self, if_true]
  have c78 : (fgt x).1 78 0 = 0 := by unfold fgt; simp (disch := omega) only [si_rd, if_neg, if_pos, and_self, if_true]
  have c80 : (fgt x).1 80 0 = 0 := by unfold fgt; simp (disch := omega) only [si_rd, if_neg, if_pos, and_self, if_true]
  have c82 : (fgt x).1 82 0 = 0 := by unfold fgt; simp (disch := omega) only [si_rd, if_neg, if_pos, and_self, if_true]
  have c75 : (fgt x).1 75 6 = -1 := by unfold fgt; simp (disch := omega) only [si_rd, if_neg, if_pos, and_self, if_true]
  have c846 : (fgt x).1 84 6 = -1 := by unfold fgt; simp (disch := omega) only [si_rd, if_neg, if_pos, and_self, if_true]
  have c847 : (fgt x).1 84 7 = 0 := by unfold fgt; simp (disch := omega) only [si_rd, if_neg, if_pos, and_self, if_true]
  have c849 : (fgt x).1 84 9 = 0 := by unfold fgt; simp (disch := omega) only [si_rd, if_neg, if_pos, and_self, if_true]
  refine ⟨⟨Or.inl ?_, Or.inl ?_, Or.inl ?_, Or.inl ?_, Or.inl ?_⟩, Or.inl ?_, Or.inl ?_, Or.inl ?_⟩
  · rw [e _ _ (by omega)]; exact c76
  · rw [e _ _ (by omega)]; exact c78
  · rw [e _ _ (by omega)]; exact c80
  · rw [e _ _ (by omega)]; exact c82
  · rw [e _ _ (by omega)]; exact c75
  · rw [e _ _ (by omega)]; exact c846
  · rw [e _ _ (by omega)]; exact c847
  · rw [e _ _ (by omega)]; exact c849
/-- the bounds of what was read -/
theorem Dt_Gd {σ τ : Sto} {t m mb : Nat} (d : Dt σ τ t m mb) (hm : 1 ≤ m ∧ m ≤ 4) : Gd (fun k => (τ.1 3 k).toInt) m 0 := by
  obtain ⟨d1, d2, d3, d4, d5⟩ := d
  have r0 := (ve_to (d3.1 0 (by omega)) (by decide)).2
  have r1 := (ve_to (d3.1 1 (by omega)) (by decide)).2
  have r2 := (ve_to (d3.1 2 (by omega)) (by decide)).2
  have r3 := (ve_to (d3.1 3 (by omega)) (by decide)).2
  have z33 : (τ.1 3 33).toInt = 0 := by rw [d3.2.2]; rfl
  refine ⟨⟨hm.1, hm.2, by omega⟩, fun s hs => ?_, fun s hs => ?_, r0, r1, r2, r3, ?_, ?_⟩
  · obtain ⟨v0, v1, v2, v3, v4, v5, v6⟩ := d2.1 s hs
    exact ⟨(ve_to v2 (by decide)).2, (ve_to v3 (by decide)).2, (ve_to v4 (by decide)).2, (ve_to v6 (by decide)).2⟩
  · obtain ⟨v0, v1, v2, v3, v4, v5, v6⟩ := d2.1 s hs
    refine ⟨(ve_to v0 (by decide)).2, ?_, (ve_to v5 (by decide)).2⟩
    show 0 ≤ (τ.1 3 (7 * s + 1)).toInt ∧ (τ.1 3 (7 * s + 1)).toInt ≤ 20
    rw [v1]
    exact (ve_to v0 (by decide)).2
  · show (-32000 : Int) ≤ (τ.1 3 33).toInt
    omega
  · show (τ.1 3 33).toInt ≤ 24000 * ((0 : Nat) : Int)
    omega
