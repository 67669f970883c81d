/-! all ints and longs are 0 behind the constructors, but two of the reference's -/
def ZI (z : CSt) : Prop := (∀ a j, z.2.2.1 a j = 0) ∧ ∀ a j, z.2.2.2.1 a j = 0
theorem ZI_mk {z : CSt} {kd : Nat × Nat} (h : ZI z) : ZI (mkc z kd) := by
  refine ⟨fun a j => ?_, fun a j => ?_⟩
  · show (if a = z.2.1 then fun _ => (0 : Int32) else z.2.2.1 a) j = 0
    split
    · rfl
    · exact h.1 a j
  · show (if a = z.2.1 then fun _ => (0 : Int64) else z.2.2.2.1 a) j = 0
    split
    · rfl
    · exact h.2 a j
def ZM (S : Nat → Bool) (z : CSt) : Prop := 134 < z.2.1 ∧ (∀ a j, z.2.2.1 a j = if a = 134 ∧ S j = true then -1 else 0) ∧ ∀ a j, z.2.2.2.1 a j = 0
theorem ZM_mk {S : Nat → Bool} {z : CSt} {kd : Nat × Nat} (h : ZM S z) : ZM S (mkc z kd) := by
  refine ⟨Nat.lt_succ_of_lt h.1, fun a j => ?_, fun a j => ?_⟩
  · show (if a = z.2.1 then fun _ => (0 : Int32) else z.2.2.1 a) j = _
    split
    · next e => rw [if_neg (fun q => by have := h.1; omega)]
    · exact h.2.1 a j
  · show (if a = z.2.1 then fun _ => (0 : Int64) else z.2.2.2.1 a) j = 0
    split
    · rfl
    · exact h.2.2 a j
theorem ZM_si {S : Nat → Bool} {z : CSt} {k : Nat} (h : ZM S z) : ZM (fun j => S j || j == k) (z.1, z.2.1, si z.2.2 134 k (-1)) := by
  refine ⟨h.1, fun a j => ?_, h.2.2⟩
  show u2 z.2.2.1 134 k (-1) a j = _
  unfold u2
  by_cases h1 : a = 134
  · by_cases h2 : j = k
    · simp [h1, h2]
    · rw [if_pos h1, if_neg h2, h.2.1 a j]; simp [h1, h2]
  · rw [if_neg h1, h.2.1 a j]; simp [h1]
set_option maxRecDepth 100000 in
set_option maxHeartbeats 4000000 in
theorem zi_K_X6_init {z0 z : CSt} {a0 : Nat} (hF : K_X6_init z0 a0 = some z) (h_z0 : ZI z0) : ZI z := by
  rw [K_X6_init] at hF
  cases hF
  exact h_z0
set_option maxRecDepth 100000 in
set_option maxHeartbeats 4000000 in
theorem zi_K_X10_init {z0 z : CSt} {a0 : Nat} (hF : K_X10_init z0 a0 = some z) (h_z0 : ZI z0) : ZI z := by
  rw [K_X10_init] at hF
  obtain ⟨z1, e, hF⟩ := swI hF
  have h_z1 := ZI_mk (kd := (20, 4)) h_z0
  rw [e] at h_z1
  clear e
  obtain ⟨-, hF⟩ := gI hF
  obtain ⟨z2, e, hF⟩ := swI hF
  have h_z2 : ZI z2 := by rw [← e]; exact h_z1
  clear e
  obtain ⟨z3, e, hF⟩ := swI hF
  have h_z3 := ZI_mk (kd := (20, 4)) h_z2
  rw [e] at h_z3
  clear e
  obtain ⟨-, hF⟩ := gI hF
  obtain ⟨z4, e, hF⟩ := swI hF
  have h_z4 : ZI z4 := by rw [← e]; exact h_z3
  clear e
  obtain ⟨z5, e, hF⟩ := swI hF
  have h_z5 := ZI_mk (kd := (20, 4)) h_z4
  rw [e] at h_z5
  clear e
  obtain ⟨-, hF⟩ := gI hF
  obtain ⟨z6, e, hF⟩ := swI hF
  have h_z6 : ZI z6 := by rw [← e]; exact h_z5
  clear e
  obtain ⟨z7, e, hF⟩ := swI hF
  have h_z7 := ZI_mk (kd := (20, 4)) h_z6
  rw [e] at h_z7
  clear e
  obtain ⟨-, hF⟩ := gI hF
  obtain ⟨z8, e, hF⟩ := swI hF
  have h_z8 : ZI z8 := by rw [← e]; exact h_z7
  clear e
  cases hF
  exact h_z8
set_option maxRecDepth 100000 in
set_option maxHeartbeats 4000000 in
theorem zi_K_X0_init {z0 z : CSt} {a0 : Nat} (hF : K_X0_init z0 a0 = some z) (h_z0 : ZI z0) : ZI z := by
  rw [K_X0_init] at hF
  obtain ⟨z1, e, hF⟩ := swI hF
  have h_z1 := ZI_mk (kd := (20, 396)) h_z0
  rw [e] at h_z1
  clear e
  obtain ⟨-, hF⟩ := gI hF
  obtain ⟨z2, e, hF⟩ := swI hF
  have h_z2 : ZI z2 := by rw [← e]; exact h_z1
  clear e
  cases hF
  exact h_z2
set_option maxRecDepth 100000 in
set_option maxHeartbeats 4000000 in
theorem zi_K_X5_init {z0 z : CSt} {a0 : Nat} (hF : K_X5_init z0 a0 = some z) (h_z0 : ZI z0) : ZI z := by
  rw [K_X5_init] at hF
  obtain ⟨z1, e, hF⟩ := swI hF
  have h_z1 := ZI_mk (kd := (24, 10)) h_z0
  rw [e] at h_z1
  clear e
  obtain ⟨-, hF⟩ := gI hF
  obtain ⟨z2, e, hF⟩ := swI hF
  have h_z2 : ZI z2 := by rw [← e]; exact h_z1
  clear e
  obtain ⟨-, hF⟩ := gI hF
  obtain ⟨_, -, hF⟩ := bI hF
  obtain ⟨z3, e, hF⟩ := swI hF
  have h_z3 := ZI_mk (kd := (10, 0)) h_z2
  rw [e] at h_z3
  clear e
  obtain ⟨z4, e, hF⟩ := bI hF
  have h_z4 := zi_K_X10_init e h_z3
  clear e
  obtain ⟨-, hF⟩ := gI hF
  obtain ⟨-, hF⟩ := gI hF
  obtain ⟨z5, e, hF⟩ := swI hF
  have h_z5 : ZI z5 := by rw [← e]; exact h_z4
  clear e
  obtain ⟨-, hF⟩ := gI hF
  obtain ⟨_, -, hF⟩ := bI hF
  obtain ⟨z6, e, hF⟩ := swI hF
  have h_z6 := ZI_mk (kd := (10, 0)) h_z5
  rw [e] at h_z6
  clear e
  obtain ⟨z7, e, hF⟩ := bI hF
  have h_z7 := zi_K_X10_init e h_z6
  clear e
  obtain ⟨-, hF⟩ := gI hF
  obtain ⟨-, hF⟩ := gI hF
  obtain ⟨z8, e, hF⟩ := swI hF
  have h_z8 : ZI z8 := by rw [← e]; exact h_z7
  clear e
  obtain ⟨-, hF⟩ := gI hF
  obtain ⟨_, -, hF⟩ := bI hF
  obtain ⟨z9, e, hF⟩ := swI hF
  have h_z9 := ZI_mk (kd := (10, 0)) h_z8
  rw [e] at h_z9
  clear e
  obtain ⟨z10, e, hF⟩ := bI hF
  have h_z10 := zi_K_X10_init e h_z9
  clear e
  obtain ⟨-, hF⟩ := gI hF
  obtain ⟨-, hF⟩ := gI hF
  obtain ⟨z11, e, hF⟩ := swI hF
  have h_z11 : ZI z11 := by rw [← e]; exact h_z10
  clear e
  obtain ⟨-, hF⟩ := gI hF
  obtain ⟨_, -, hF⟩ := bI hF
  obtain ⟨z12, e, hF⟩ := swI hF
  have h_z12 := ZI_mk (kd := (10, 0)) h_z11
  rw [e] at h_z12
  clear e
  obtain ⟨z13, e, hF⟩ := bI hF
  have h_z13 := zi_K_X10_init e h_z12
  clear e
  obtain ⟨-, hF⟩ := gI hF
  obtain ⟨-, hF⟩ := gI hF
  obtain ⟨z14, e, hF⟩ := swI hF
  have h_z14 : ZI z14 := by rw [← e]; exact h_z13
  clear e
  obtain ⟨-, hF⟩ := gI hF
  obtain ⟨_, -, hF⟩ := bI hF
  obtain ⟨z15, e, hF⟩ := swI hF
  have h_z15 := ZI_mk (kd := (10, 0)) h_z14
  rw [e] at h_z15
  clear e
  obtain ⟨z16, e, hF⟩ := bI hF
  have h_z16 := zi_K_X10_init e h_z15
  clear e
  obtain ⟨-, hF⟩ := gI hF
  obtain ⟨-, hF⟩ := gI hF
  obtain ⟨z17, e, hF⟩ := swI hF
  have h_z17 : ZI z17 := by rw [← e]; exact h_z16
  clear e
  obtain ⟨-, hF⟩ := gI hF
  obtain ⟨_, -, hF⟩ := bI hF
  obtain ⟨z18, e, hF⟩ := swI hF
  have h_z18 := ZI_mk (kd := (10, 0)) h_z17
  rw [e] at h_z18
  clear e
  obtain ⟨z19, e, hF⟩ := bI hF
  have h_z19 := zi_K_X10_init e h_z18
  clear e
  obtain ⟨-, hF⟩ := gI hF
  obtain ⟨-, hF⟩ := gI hF
  obtain ⟨z20, e, hF⟩ := swI hF
  have h_z20 : ZI z20 := by rw [← e]; exact h_z19
  clear e
  obtain ⟨-, hF⟩ := gI hF
  obtain ⟨_, -, hF⟩ := bI hF
  obtain ⟨z21, e, hF⟩ := swI hF
  have h_z21 := ZI_mk (kd := (10, 0)) h_z20
  rw [e] at h_z21
  clear e
  obtain ⟨z22, e, hF⟩ := bI hF
  have h_z22 := zi_K_X10_init e h_z21
  clear e
  obtain ⟨-, hF⟩ := gI hF
  obtain ⟨-, hF⟩ := gI hF
  obtain ⟨z23, e, hF⟩ := swI hF
  have h_z23 : ZI z23 := by rw [← e]; exact h_z22
  clear e
  obtain ⟨-, hF⟩ := gI hF
  obtain ⟨_, -, hF⟩ := bI hF
  obtain ⟨z24, e, hF⟩ := swI hF
  have h_z24 := ZI_mk (kd := (10, 0)) h_z23
  rw [e] at h_z24
  clear e
  obtain ⟨z25, e, hF⟩ := bI hF
  have h_z25 := zi_K_X10_init e h_z24
  clear e
  obtain ⟨-, hF⟩ := gI hF
  obtain ⟨-, hF⟩ := gI hF
  obtain ⟨z26, e, hF⟩ := swI hF
  have h_z26 : ZI z26 := by rw [← e]; exact h_z25
  clear e
  obtain ⟨-, hF⟩ := gI hF
  obtain ⟨_, -, hF⟩ := bI hF
  obtain ⟨z27, e, hF⟩ := swI hF
  have h_z27 := ZI_mk (kd := (10, 0)) h_z26
  rw [e] at h_z27
  clear e
  obtain ⟨z28, e, hF⟩ := bI hF
  have h_z28 := zi_K_X10_init e h_z27
  clear e
  obtain ⟨-, hF⟩ := gI hF
  obtain ⟨-, hF⟩ := gI hF
  obtain ⟨z29, e, hF⟩ := swI hF
  have h_z29 : ZI z29 := by rw [← e]; exact h_z28
  clear e
  obtain ⟨-, hF⟩ := gI hF
  obtain ⟨_, -, hF⟩ := bI hF
  obtain ⟨z30, e, hF⟩ := swI hF
  have h_z30 := ZI_mk (kd := (10, 0)) h_z29
  rw [e] at h_z30
  clear e
  obtain ⟨z31, e, hF⟩ := bI hF
  have h_z31 := zi_K_X10_init e h_z30
  clear e
  obtain ⟨-, hF⟩ := gI hF
  obtain ⟨-, hF⟩ := gI hF
  obtain ⟨z32, e, hF⟩ := swI hF
  have h_z32 : ZI z32 := by rw [← e]; exact h_z31
  clear e
  cases hF
  exact h_z32
set_option maxRecDepth 100000 in
set_option maxHeartbeats 4000000 in
theorem zi_K_X8_init {z0 z : CSt} {a0 : Nat} (hF : K_X8_init z0 a0 = some z) (h_z0 : ZI z0) : ZI z := by
  rw [K_X8_init] at hF
  obtain ⟨z1, e, hF⟩ := swI hF
  have h_z1 := ZI_mk (kd := (20, 20)) h_z0
  rw [e] at h_z1
  clear e
  obtain ⟨-, hF⟩ := gI hF
  obtain ⟨z2, e, hF⟩ := swI hF
  have h_z2 : ZI z2 := by rw [← e]; exact h_z1
  clear e
  obtain ⟨z3, e, hF⟩ := swI hF
  have h_z3 := ZI_mk (kd := (20, 5)) h_z2
  rw [e] at h_z3
  clear e
  obtain ⟨-, hF⟩ := gI hF
  obtain ⟨z4, e, hF⟩ := swI hF
  have h_z4 : ZI z4 := by rw [← e]; exact h_z3
  clear e
  obtain ⟨z5, e, hF⟩ := swI hF
  have h_z5 := ZI_mk (kd := (20, 4)) h_z4
  rw [e] at h_z5
  clear e
  obtain ⟨-, hF⟩ := gI hF
  obtain ⟨z6, e, hF⟩ := swI hF
  have h_z6 : ZI z6 := by rw [← e]; exact h_z5
  clear e
  obtain ⟨z7, e, hF⟩ := swI hF
  have h_z7 := ZI_mk (kd := (20, 4)) h_z6
  rw [e] at h_z7
  clear e
  obtain ⟨-, hF⟩ := gI hF
  obtain ⟨z8, e, hF⟩ := swI hF
  have h_z8 : ZI z8 := by rw [← e]; exact h_z7
  clear e
  obtain ⟨z9, e, hF⟩ := swI hF
  have h_z9 := ZI_mk (kd := (20, 4)) h_z8
  rw [e] at h_z9
  clear e
  obtain ⟨-, hF⟩ := gI hF
  obtain ⟨z10, e, hF⟩ := swI hF
  have h_z10 : ZI z10 := by rw [← e]; exact h_z9
  clear e
  obtain ⟨z11, e, hF⟩ := swI hF
  have h_z11 := ZI_mk (kd := (20, 84)) h_z10
  rw [e] at h_z11
  clear e
  obtain ⟨-, hF⟩ := gI hF
  obtain ⟨z12, e, hF⟩ := swI hF
  have h_z12 : ZI z12 := by rw [← e]; exact h_z11
  clear e
  obtain ⟨z13, e, hF⟩ := swI hF
  have h_z13 := ZI_mk (kd := (20, 84)) h_z12
  rw [e] at h_z13
  clear e
  obtain ⟨-, hF⟩ := gI hF
  obtain ⟨z14, e, hF⟩ := swI hF
  have h_z14 : ZI z14 := by rw [← e]; exact h_z13
  clear e
  obtain ⟨z15, e, hF⟩ := swI hF
  have h_z15 := ZI_mk (kd := (20, 84)) h_z14
  rw [e] at h_z15
  clear e
  obtain ⟨-, hF⟩ := gI hF
  obtain ⟨z16, e, hF⟩ := swI hF
  have h_z16 : ZI z16 := by rw [← e]; exact h_z15
  clear e
  obtain ⟨z17, e, hF⟩ := swI hF
  have h_z17 := ZI_mk (kd := (20, 4)) h_z16
  rw [e] at h_z17
  clear e
  obtain ⟨-, hF⟩ := gI hF
  obtain ⟨z18, e, hF⟩ := swI hF
  have h_z18 : ZI z18 := by rw [← e]; exact h_z17
  clear e
  obtain ⟨z19, e, hF⟩ := swI hF
  have h_z19 := ZI_mk (kd := (20, 4)) h_z18
  rw [e] at h_z19
  clear e
  obtain ⟨-, hF⟩ := gI hF
  obtain ⟨z20, e, hF⟩ := swI hF
  have h_z20 : ZI z20 := by rw [← e]; exact h_z19
  clear e
  obtain ⟨z21, e, hF⟩ := swI hF
  have h_z21 := ZI_mk (kd := (20, 5)) h_z20
  rw [e] at h_z21
  clear e
  obtain ⟨-, hF⟩ := gI hF
  obtain ⟨z22, e, hF⟩ := swI hF
  have h_z22 : ZI z22 := by rw [← e]; exact h_z21
  clear e
  cases hF
  exact h_z22
set_option maxRecDepth 100000 in
set_option maxHeartbeats 4000000 in
theorem zi_K_X7_init {z0 z : CSt} {a0 : Nat} (hF : K_X7_init z0 a0 = some z) (h_z0 : ZI z0) : ZI z := by
  rw [K_X7_init] at hF
  obtain ⟨z1, e, hF⟩ := swI hF
  have h_z1 := ZI_mk (kd := (20, 4)) h_z0
  rw [e] at h_z1
  clear e
  obtain ⟨-, hF⟩ := gI hF
  obtain ⟨z2, e, hF⟩ := swI hF
  have h_z2 : ZI z2 := by rw [← e]; exact h_z1
  clear e
  cases hF
  exact h_z2
set_option maxRecDepth 100000 in
set_option maxHeartbeats 4000000 in
theorem zi_K_X2_init {z0 z : CSt} {a0 : Nat} {a1 : Nat} (hF : K_X2_init z0 a0 a1 = some z) (h_z0 : ZI z0) : ZI z := by
  rw [K_X2_init] at hF
  obtain ⟨z1, e, hF⟩ := swI hF
  have h_z1 := ZI_mk (kd := (7, 0)) h_z0
  rw [e] at h_z1
  clear e
  obtain ⟨z2, e, hF⟩ := bI hF
  have h_z2 := zi_K_X7_init e h_z1
  clear e
  obtain ⟨-, hF⟩ := gI hF
  obtain ⟨z3, e, hF⟩ := swI hF
  have h_z3 : ZI z3 := by rw [← e]; exact h_z2
  clear e
  obtain ⟨z4, e, hF⟩ := swI hF
  have h_z4 := ZI_mk (kd := (7, 0)) h_z3
  rw [e] at h_z4
  clear e
  obtain ⟨z5, e, hF⟩ := bI hF
  have h_z5 := zi_K_X7_init e h_z4
  clear e
  obtain ⟨-, hF⟩ := gI hF
  obtain ⟨z6, e, hF⟩ := swI hF
  have h_z6 : ZI z6 := by rw [← e]; exact h_z5
  clear e
  obtain ⟨z7, e, hF⟩ := swI hF
  have h_z7 := ZI_mk (kd := (7, 0)) h_z6
  rw [e] at h_z7
  clear e
  obtain ⟨z8, e, hF⟩ := bI hF
  have h_z8 := zi_K_X7_init e h_z7
  clear e
  obtain ⟨-, hF⟩ := gI hF
  obtain ⟨z9, e, hF⟩ := swI hF
  have h_z9 : ZI z9 := by rw [← e]; exact h_z8
  clear e
  obtain ⟨z10, e, hF⟩ := swI hF
  have h_z10 := ZI_mk (kd := (7, 0)) h_z9
  rw [e] at h_z10
  clear e
  obtain ⟨z11, e, hF⟩ := bI hF
  have h_z11 := zi_K_X7_init e h_z10
  clear e
  obtain ⟨-, hF⟩ := gI hF
  obtain ⟨z12, e, hF⟩ := swI hF
  have h_z12 : ZI z12 := by rw [← e]; exact h_z11
  clear e
  obtain ⟨-, hF⟩ := gI hF
  obtain ⟨z13, e, hF⟩ := swI hF
  have h_z13 : ZI z13 := by rw [← e]; exact h_z12
  clear e
  cases hF
  exact h_z13
set_option maxRecDepth 100000 in
set_option maxHeartbeats 4000000 in
theorem zi_K_X4_init {z0 z : CSt} {a0 : Nat} {a1 : Nat} (hF : K_X4_init z0 a0 a1 = some z) (h_z0 : ZI z0) : ZI z := by
  rw [K_X4_init] at hF
  obtain ⟨z1, e, hF⟩ := swI hF
  have h_z1 := ZI_mk (kd := (7, 0)) h_z0
  rw [e] at h_z1
  clear e
  obtain ⟨z2, e, hF⟩ := bI hF
  have h_z2 := zi_K_X7_init e h_z1
  clear e
  obtain ⟨-, hF⟩ := gI hF
  obtain ⟨z3, e, hF⟩ := swI hF
  have h_z3 : ZI z3 := by rw [← e]; exact h_z2
  clear e
  obtain ⟨z4, e, hF⟩ := swI hF
  have h_z4 := ZI_mk (kd := (10, 0)) h_z3
  rw [e] at h_z4
  clear e
  obtain ⟨z5, e, hF⟩ := bI hF
  have h_z5 := zi_K_X10_init e h_z4
  clear e
  obtain ⟨-, hF⟩ := gI hF
  obtain ⟨z6, e, hF⟩ := swI hF
  have h_z6 : ZI z6 := by rw [← e]; exact h_z5
  clear e
  obtain ⟨z7, e, hF⟩ := swI hF
  have h_z7 := ZI_mk (kd := (10, 0)) h_z6
  rw [e] at h_z7
  clear e
  obtain ⟨z8, e, hF⟩ := bI hF
  have h_z8 := zi_K_X10_init e h_z7
  clear e
  obtain ⟨-, hF⟩ := gI hF
  obtain ⟨z9, e, hF⟩ := swI hF
  have h_z9 : ZI z9 := by rw [← e]; exact h_z8
  clear e
  obtain ⟨z10, e, hF⟩ := swI hF
  have h_z10 := ZI_mk (kd := (20, 36)) h_z9
  rw [e] at h_z10
  clear e
  obtain ⟨-, hF⟩ := gI hF
  obtain ⟨z11, e, hF⟩ := swI hF
  have h_z11 : ZI z11 := by rw [← e]; exact h_z10
  clear e
  obtain ⟨z12, e, hF⟩ := swI hF
  have h_z12 := ZI_mk (kd := (20, 4)) h_z11
  rw [e] at h_z12
  clear e
  obtain ⟨-, hF⟩ := gI hF
  obtain ⟨z13, e, hF⟩ := swI hF
  have h_z13 : ZI z13 := by rw [← e]; exact h_z12
  clear e
  obtain ⟨-, hF⟩ := gI hF
  obtain ⟨z14, e, hF⟩ := swI hF
  have h_z14 : ZI z14 := by rw [← e]; exact h_z13
  clear e
  cases hF
  exact h_z14
set_option maxRecDepth 100000 in
set_option maxHeartbeats 4000000 in
theorem zi_K_X1_init {z0 z : CSt} {a0 : Nat} (hF : K_X1_init z0 a0 = some z) (h_z0 : ZI z0) : ZI z := by
  rw [K_X1_init] at hF
  obtain ⟨z1, e, hF⟩ := swI hF
  have h_z1 := ZI_mk (kd := (20, 4)) h_z0
  rw [e] at h_z1
  clear e
  obtain ⟨-, hF⟩ := gI hF
  obtain ⟨z2, e, hF⟩ := swI hF
  have h_z2 : ZI z2 := by rw [← e]; exact h_z1
  clear e
  cases hF
  exact h_z2
set_option maxRecDepth 100000 in
set_option maxHeartbeats 4000000 in
theorem zi_K_X9_init {z0 z : CSt} {a0 : Nat} (hF : K_X9_init z0 a0 = some z) (h_z0 : ZI z0) : ZI z := by
  rw [K_X9_init] at hF
  obtain ⟨z1, e, hF⟩ := swI hF
  have h_z1 := ZI_mk (kd := (21, 8)) h_z0
  rw [e] at h_z1
  clear e
  obtain ⟨-, hF⟩ := gI hF
  obtain ⟨z2, e, hF⟩ := swI hF
  have h_z2 : ZI z2 := by rw [← e]; exact h_z1
  clear e
  obtain ⟨z3, e, hF⟩ := swI hF
  have h_z3 := ZI_mk (kd := (20, 24)) h_z2
  rw [e] at h_z3
  clear e
  obtain ⟨-, hF⟩ := gI hF
  obtain ⟨z4, e, hF⟩ := swI hF
  have h_z4 : ZI z4 := by rw [← e]; exact h_z3
  clear e
  obtain ⟨z5, e, hF⟩ := swI hF
  have h_z5 := ZI_mk (kd := (20, 16)) h_z4
  rw [e] at h_z5
  clear e
  obtain ⟨-, hF⟩ := gI hF
  obtain ⟨z6, e, hF⟩ := swI hF
  have h_z6 : ZI z6 := by rw [← e]; exact h_z5
  clear e
  obtain ⟨z7, e, hF⟩ := swI hF
  have h_z7 := ZI_mk (kd := (20, 4)) h_z6
  rw [e] at h_z7
  clear e
  obtain ⟨-, hF⟩ := gI hF
  obtain ⟨z8, e, hF⟩ := swI hF
  have h_z8 : ZI z8 := by rw [← e]; exact h_z7
  clear e
  obtain ⟨z9, e, hF⟩ := swI hF
  have h_z9 := ZI_mk (kd := (20, 84)) h_z8
  rw [e] at h_z9
  clear e
  obtain ⟨-, hF⟩ := gI hF
  obtain ⟨z10, e, hF⟩ := swI hF
  have h_z10 : ZI z10 := by rw [← e]; exact h_z9
  clear e
  obtain ⟨z11, e, hF⟩ := swI hF
  have h_z11 := ZI_mk (kd := (20, 84)) h_z10
  rw [e] at h_z11
  clear e
  obtain ⟨-, hF⟩ := gI hF
  obtain ⟨z12, e, hF⟩ := swI hF
  have h_z12 : ZI z12 := by rw [← e]; exact h_z11
  clear e
  obtain ⟨z13, e, hF⟩ := swI hF
  have h_z13 := ZI_mk (kd := (20, 84)) h_z12
  rw [e] at h_z13
  clear e
  obtain ⟨-, hF⟩ := gI hF
  obtain ⟨z14, e, hF⟩ := swI hF
  have h_z14 : ZI z14 := by rw [← e]; exact h_z13
  clear e
  cases hF
  exact h_z14
set_option maxRecDepth 100000 in
set_option maxHeartbeats 4000000 in
theorem zi_K_X3_init {z0 z : CSt} {a0 : Nat} (hF : K_X3_init z0 a0 = some z) (h_z0 : ZI z0) : ZI z := by
  rw [K_X3_init] at hF
  obtain ⟨z1, e, hF⟩ := swI hF
  have h_z1 := ZI_mk (kd := (10, 0)) h_z0
  rw [e] at h_z1
  clear e
  obtain ⟨z2, e, hF⟩ := bI hF
  have h_z2 := zi_K_X10_init e h_z1
  clear e
  obtain ⟨-, hF⟩ := gI hF
  obtain ⟨z3, e, hF⟩ := swI hF
  have h_z3 : ZI z3 := by rw [← e]; exact h_z2
  clear e
  obtain ⟨z4, e, hF⟩ := swI hF
  have h_z4 := ZI_mk (kd := (0, 0)) h_z3
  rw [e] at h_z4
  clear e
  obtain ⟨z5, e, hF⟩ := bI hF
  have h_z5 := zi_K_X0_init e h_z4
  clear e
  obtain ⟨-, hF⟩ := gI hF
  obtain ⟨z6, e, hF⟩ := swI hF
  have h_z6 : ZI z6 := by rw [← e]; exact h_z5
  clear e
  cases hF
  exact h_z6
set_option maxRecDepth 100000 in
set_option maxHeartbeats 4000000 in
theorem zi_K_X11_init {z0 z : CSt} {a0 : Nat} (hF : K_X11_init z0 a0 = some z) (h_z0 : ZI z0) : ZI z := by
  rw [K_X11_init] at hF
  obtain ⟨z1, e, hF⟩ := swI hF
  have h_z1 := ZI_mk (kd := (20, 500)) h_z0
  rw [e] at h_z1
  clear e
  obtain ⟨-, hF⟩ := gI hF
  obtain ⟨z2, e, hF⟩ := swI hF
  have h_z2 : ZI z2 := by rw [← e]; exact h_z1
  clear e
  obtain ⟨z3, e, hF⟩ := swI hF
  have h_z3 := ZI_mk (kd := (6, 0)) h_z2
  rw [e] at h_z3
  clear e
  obtain ⟨z4, e, hF⟩ := bI hF
  have h_z4 := zi_K_X6_init e h_z3
  clear e
  obtain ⟨-, hF⟩ := gI hF
  obtain ⟨z5, e, hF⟩ := swI hF
  have h_z5 : ZI z5 := by rw [← e]; exact h_z4
  clear e
  obtain ⟨z6, e, hF⟩ := swI hF
  have h_z6 := ZI_mk (kd := (10, 0)) h_z5
  rw [e] at h_z6
  clear e
  obtain ⟨z7, e, hF⟩ := bI hF
  have h_z7 := zi_K_X10_init e h_z6
  clear e
  obtain ⟨-, hF⟩ := gI hF
  obtain ⟨z8, e, hF⟩ := swI hF
  have h_z8 : ZI z8 := by rw [← e]; exact h_z7
  clear e
  obtain ⟨z9, e, hF⟩ := swI hF
  have h_z9 := ZI_mk (kd := (0, 0)) h_z8
  rw [e] at h_z9
  clear e
  obtain ⟨z10, e, hF⟩ := bI hF
  have h_z10 := zi_K_X0_init e h_z9
  clear e
  obtain ⟨-, hF⟩ := gI hF
  obtain ⟨z11, e, hF⟩ := swI hF
  have h_z11 : ZI z11 := by rw [← e]; exact h_z10
  clear e
  obtain ⟨z12, e, hF⟩ := swI hF
  have h_z12 := ZI_mk (kd := (5, 0)) h_z11
  rw [e] at h_z12
  clear e
  obtain ⟨z13, e, hF⟩ := bI hF
  have h_z13 := zi_K_X5_init e h_z12
  clear e
  obtain ⟨-, hF⟩ := gI hF
  obtain ⟨z14, e, hF⟩ := swI hF
  have h_z14 : ZI z14 := by rw [← e]; exact h_z13
  clear e
  obtain ⟨z15, e, hF⟩ := swI hF
  have h_z15 := ZI_mk (kd := (23, 2)) h_z14
  rw [e] at h_z15
  clear e
  obtain ⟨-, hF⟩ := gI hF
  obtain ⟨z16, e, hF⟩ := swI hF
  have h_z16 : ZI z16 := by rw [← e]; exact h_z15
  clear e
  obtain ⟨z17, e, hF⟩ := swI hF
  have h_z17 := ZI_mk (kd := (8, 0)) h_z16
  rw [e] at h_z17
  clear e
  obtain ⟨z18, e, hF⟩ := bI hF
  have h_z18 := zi_K_X8_init e h_z17
  clear e
  obtain ⟨-, hF⟩ := gI hF
  obtain ⟨z19, e, hF⟩ := swI hF
  have h_z19 : ZI z19 := by rw [← e]; exact h_z18
  clear e
  obtain ⟨z20, e, hF⟩ := swI hF
  have h_z20 := ZI_mk (kd := (2, 0)) h_z19
  rw [e] at h_z20
  clear e
  obtain ⟨-, hF⟩ := gI hF
  obtain ⟨_, -, hF⟩ := bI hF
  obtain ⟨z21, e, hF⟩ := bI hF
  have h_z21 := zi_K_X2_init e h_z20
  clear e
  obtain ⟨-, hF⟩ := gI hF
  obtain ⟨z22, e, hF⟩ := swI hF
  have h_z22 : ZI z22 := by rw [← e]; exact h_z21
  clear e
  obtain ⟨z23, e, hF⟩ := swI hF
  have h_z23 := ZI_mk (kd := (4, 0)) h_z22
  rw [e] at h_z23
  clear e
  obtain ⟨-, hF⟩ := gI hF
  obtain ⟨_, -, hF⟩ := bI hF
  obtain ⟨z24, e, hF⟩ := bI hF
  have h_z24 := zi_K_X4_init e h_z23
  clear e
  obtain ⟨-, hF⟩ := gI hF
  obtain ⟨z25, e, hF⟩ := swI hF
  have h_z25 : ZI z25 := by rw [← e]; exact h_z24
  clear e
  obtain ⟨z26, e, hF⟩ := swI hF
  have h_z26 := ZI_mk (kd := (1, 0)) h_z25
  rw [e] at h_z26
  clear e
  obtain ⟨z27, e, hF⟩ := bI hF
  have h_z27 := zi_K_X1_init e h_z26
  clear e
  obtain ⟨-, hF⟩ := gI hF
  obtain ⟨z28, e, hF⟩ := swI hF
  have h_z28 : ZI z28 := by rw [← e]; exact h_z27
  clear e
  obtain ⟨z29, e, hF⟩ := swI hF
  have h_z29 := ZI_mk (kd := (20, 11)) h_z28
  rw [e] at h_z29
  clear e
  obtain ⟨-, hF⟩ := gI hF
  obtain ⟨z30, e, hF⟩ := swI hF
  have h_z30 : ZI z30 := by rw [← e]; exact h_z29
  clear e
  obtain ⟨z31, e, hF⟩ := swI hF
  have h_z31 := ZI_mk (kd := (9, 0)) h_z30
  rw [e] at h_z31
  clear e
  obtain ⟨z32, e, hF⟩ := bI hF
  have h_z32 := zi_K_X9_init e h_z31
  clear e
  obtain ⟨-, hF⟩ := gI hF
  obtain ⟨z33, e, hF⟩ := swI hF
  have h_z33 : ZI z33 := by rw [← e]; exact h_z32
  clear e
  obtain ⟨z34, e, hF⟩ := swI hF
  have h_z34 := ZI_mk (kd := (9, 0)) h_z33
  rw [e] at h_z34
  clear e
  obtain ⟨z35, e, hF⟩ := bI hF
  have h_z35 := zi_K_X9_init e h_z34
  clear e
  obtain ⟨-, hF⟩ := gI hF
  obtain ⟨z36, e, hF⟩ := swI hF
  have h_z36 : ZI z36 := by rw [← e]; exact h_z35
  clear e
  obtain ⟨-, hF⟩ := gI hF
  obtain ⟨_, -, hF⟩ := bI hF
  obtain ⟨z37, e, hF⟩ := swI hF
  have h_z37 := ZI_mk (kd := (3, 0)) h_z36
  rw [e] at h_z37
  clear e
  obtain ⟨z38, e, hF⟩ := bI hF
  have h_z38 := zi_K_X3_init e h_z37
  clear e
  obtain ⟨-, hF⟩ := gI hF
  obtain ⟨-, hF⟩ := gI hF
  obtain ⟨z39, e, hF⟩ := swI hF
  have h_z39 : ZI z39 := by rw [← e]; exact h_z38
  clear e
  obtain ⟨-, hF⟩ := gI hF
  obtain ⟨_, -, hF⟩ := bI hF
  obtain ⟨z40, e, hF⟩ := swI hF
  have h_z40 := ZI_mk (kd := (3, 0)) h_z39
  rw [e] at h_z40
  clear e
  obtain ⟨z41, e, hF⟩ := bI hF
  have h_z41 := zi_K_X3_init e h_z40
  clear e
  obtain ⟨-, hF⟩ := gI hF
  obtain ⟨-, hF⟩ := gI hF
  obtain ⟨z42, e, hF⟩ := swI hF
  have h_z42 : ZI z42 := by rw [← e]; exact h_z41
  clear e
  cases hF
  exact h_z42
set_option maxRecDepth 100000 in
set_option maxHeartbeats 4000000 in
theorem zi_K_X12_init {z0 z : CSt} (hF : K_X12_init z0 134 = some z) (h_z0 : ZM (fun _ => false) z0) : ZM (fun j => (false || j == 2) || j == 38) z := by
  rw [K_X12_init] at hF
  obtain ⟨-, hF⟩ := gI hF
  obtain ⟨z1, e, hF⟩ := swI hF
  have h_z1 := ZM_si (k := 2) h_z0
  rw [e] at h_z1
  clear e
  obtain ⟨z2, e, hF⟩ := swI hF
  have h_z2 := ZM_mk (kd := (20, 500)) h_z1
  rw [e] at h_z2
  clear e
  obtain ⟨-, hF⟩ := gI hF
  obtain ⟨z3, e, hF⟩ := swI hF
  have h_z3 : ZM (fun j => false || j == 2) z3 := by rw [← e]; exact h_z2
  clear e
  obtain ⟨z4, e, hF⟩ := swI hF
  have h_z4 := ZM_mk (kd := (20, 534)) h_z3
  rw [e] at h_z4
  clear e
  obtain ⟨-, hF⟩ := gI hF
  obtain ⟨z5, e, hF⟩ := swI hF
  have h_z5 : ZM (fun j => false || j == 2) z5 := by rw [← e]; exact h_z4
  clear e
  obtain ⟨z6, e, hF⟩ := swI hF
  have h_z6 := ZM_mk (kd := (20, 534)) h_z5
  rw [e] at h_z6
  clear e
  obtain ⟨-, hF⟩ := gI hF
  obtain ⟨z7, e, hF⟩ := swI hF
  have h_z7 : ZM (fun j => false || j == 2) z7 := by rw [← e]; exact h_z6
  clear e
  obtain ⟨z8, e, hF⟩ := swI hF
  have h_z8 := ZM_mk (kd := (20, 534)) h_z7
  rw [e] at h_z8
  clear e
  obtain ⟨-, hF⟩ := gI hF
  obtain ⟨z9, e, hF⟩ := swI hF
  have h_z9 : ZM (fun j => false || j == 2) z9 := by rw [← e]; exact h_z8
  clear e
  obtain ⟨z10, e, hF⟩ := swI hF
  have h_z10 := ZM_mk (kd := (20, 5340)) h_z9
  rw [e] at h_z10
  clear e
  obtain ⟨-, hF⟩ := gI hF
  obtain ⟨z11, e, hF⟩ := swI hF
  have h_z11 : ZM (fun j => false || j == 2) z11 := by rw [← e]; exact h_z10
  clear e
  obtain ⟨z12, e, hF⟩ := swI hF
  have h_z12 := ZM_mk (kd := (20, 1068)) h_z11
  rw [e] at h_z12
  clear e
  obtain ⟨-, hF⟩ := gI hF
  obtain ⟨z13, e, hF⟩ := swI hF
  have h_z13 : ZM (fun j => false || j == 2) z13 := by rw [← e]; exact h_z12
  clear e
  obtain ⟨z14, e, hF⟩ := swI hF
  have h_z14 := ZM_mk (kd := (21, 4)) h_z13
  rw [e] at h_z14
  clear e
  obtain ⟨-, hF⟩ := gI hF
  obtain ⟨z15, e, hF⟩ := swI hF
  have h_z15 : ZM (fun j => false || j == 2) z15 := by rw [← e]; exact h_z14
  clear e
  obtain ⟨z16, e, hF⟩ := swI hF
  have h_z16 := ZM_mk (kd := (21, 8)) h_z15
  rw [e] at h_z16
  clear e
  obtain ⟨-, hF⟩ := gI hF
  obtain ⟨z17, e, hF⟩ := swI hF
  have h_z17 : ZM (fun j => false || j == 2) z17 := by rw [← e]; exact h_z16
  clear e
  obtain ⟨z18, e, hF⟩ := swI hF
  have h_z18 := ZM_mk (kd := (22, 2)) h_z17
  rw [e] at h_z18
  clear e
  obtain ⟨-, hF⟩ := gI hF
  obtain ⟨z19, e, hF⟩ := swI hF
  have h_z19 : ZM (fun j => false || j == 2) z19 := by rw [← e]; exact h_z18
  clear e
  obtain ⟨z20, e, hF⟩ := swI hF
  have h_z20 := ZM_mk (kd := (20, 16)) h_z19
  rw [e] at h_z20
  clear e
  obtain ⟨-, hF⟩ := gI hF
  obtain ⟨z21, e, hF⟩ := swI hF
  have h_z21 : ZM (fun j => false || j == 2) z21 := by rw [← e]; exact h_z20
  clear e
  obtain ⟨z22, e, hF⟩ := swI hF
  have h_z22 := ZM_mk (kd := (20, 16)) h_z21
  rw [e] at h_z22
  clear e
  obtain ⟨-, hF⟩ := gI hF
  obtain ⟨z23, e, hF⟩ := swI hF
  have h_z23 : ZM (fun j => false || j == 2) z23 := by rw [← e]; exact h_z22
  clear e
  obtain ⟨z24, e, hF⟩ := swI hF
  have h_z24 := ZM_mk (kd := (20, 84)) h_z23
  rw [e] at h_z24
  clear e
  obtain ⟨-, hF⟩ := gI hF
  obtain ⟨z25, e, hF⟩ := swI hF
  have h_z25 : ZM (fun j => false || j == 2) z25 := by rw [← e]; exact h_z24
  clear e
  obtain ⟨z26, e, hF⟩ := swI hF
  have h_z26 := ZM_mk (kd := (20, 5)) h_z25
  rw [e] at h_z26
  clear e
  obtain ⟨-, hF⟩ := gI hF
  obtain ⟨z27, e, hF⟩ := swI hF
  have h_z27 : ZM (fun j => false || j == 2) z27 := by rw [← e]; exact h_z26
  clear e
  obtain ⟨z28, e, hF⟩ := swI hF
  have h_z28 := ZM_mk (kd := (20, 4)) h_z27
  rw [e] at h_z28
  clear e
  obtain ⟨-, hF⟩ := gI hF
  obtain ⟨z29, e, hF⟩ := swI hF
  have h_z29 : ZM (fun j => false || j == 2) z29 := by rw [← e]; exact h_z28
  clear e
  obtain ⟨z30, e, hF⟩ := swI hF
  have h_z30 := ZM_mk (kd := (20, 4)) h_z29
  rw [e] at h_z30
  clear e
  obtain ⟨-, hF⟩ := gI hF
  obtain ⟨z31, e, hF⟩ := swI hF
  have h_z31 : ZM (fun j => false || j == 2) z31 := by rw [← e]; exact h_z30
  clear e
  obtain ⟨z32, e, hF⟩ := swI hF
  have h_z32 := ZM_mk (kd := (20, 4)) h_z31
  rw [e] at h_z32
  clear e
  obtain ⟨-, hF⟩ := gI hF
  obtain ⟨z33, e, hF⟩ := swI hF
  have h_z33 : ZM (fun j => false || j == 2) z33 := by rw [← e]; exact h_z32
  clear e
  obtain ⟨-, hF⟩ := gI hF
  obtain ⟨z34, e, hF⟩ := swI hF
  have h_z34 := ZM_si (k := 38) h_z33
  rw [e] at h_z34
  clear e
  obtain ⟨z35, e, hF⟩ := swI hF
  have h_z35 := ZM_mk (kd := (20, 4)) h_z34
  rw [e] at h_z35
  clear e
  obtain ⟨-, hF⟩ := gI hF
  obtain ⟨z36, e, hF⟩ := swI hF
  have h_z36 : ZM (fun j => (false || j == 2) || j == 38) z36 := by rw [← e]; exact h_z35
  clear e
  obtain ⟨z37, e, hF⟩ := swI hF
  have h_z37 := ZM_mk (kd := (20, 12)) h_z36
  rw [e] at h_z37
  clear e
  obtain ⟨-, hF⟩ := gI hF
  obtain ⟨z38, e, hF⟩ := swI hF
  have h_z38 : ZM (fun j => (false || j == 2) || j == 38) z38 := by rw [← e]; exact h_z37
  clear e
  cases hF
  exact h_z38
/-- the start of both worlds -/
def zE : CSt := (fun _ => (99, 0), 0, (fun _ _ => 0, fun _ _ => 0, fun _ _ => none))
def σC0 : Sto := (fun _ _ => 0, fun _ _ => 0, fun a k => if a = 0 then (if k = 11 then some 102 else if k = 12 then some 110 else none) else none)
def σM0 : Sto := (fun a j => if a = 0 ∧ ((false || j == 2) || j == 38) = true then -1 else 0, fun _ _ => 0, fun _ _ => none)
def eqS (z : CSt) (off : Nat) (sh : Shp) (σ : Sto) (a : Nat) : Bool := decide (z.1 (off + a) = sh a) && (List.range (if (sh a).1 < 13 then NF (sh a).1 else if (sh a).1 < 23 then 0 else (sh a).2)).all fun k => decide (z.2.2.2.2 (off + a) k = (σ.2.2 a k).map (fun x => off + x))
def ckAll : Bool := match K_X11_init (mkc zE (11, 0)) 0 with
  | none => false
  | some z2 => match K_X12_init (mkc z2 (12, 0)) 134 with
    | none => false
    | some z4 => decide (z2.2.1 = 134) && (decide (z4.2.1 = 153) && ((List.range 134).all (eqS (mkc z4 (21, 1)) 0 shC (ovC σC0)) && (List.range 19).all (eqS (mkc z4 (21, 1)) 134 shM (ovM σM0))))
set_option maxRecDepth 100000 in
theorem ck_all : ckAll = true := by decide +kernel
theorem ck_ex : ∃ z2 z4 : CSt, K_X11_init (mkc zE (11, 0)) 0 = some z2 ∧ K_X12_init (mkc z2 (12, 0)) 134 = some z4 ∧ z2.2.1 = 134 ∧ z4.2.1 = 153 ∧ (∀ a, a < 134 → eqS (mkc z4 (21, 1)) 0 shC (ovC σC0) a = true) ∧ ∀ a, a < 19 → eqS (mkc z4 (21, 1)) 134 shM (ovM σM0) a = true := by
  have h := ck_all
  unfold ckAll at h
  cases e1 : K_X11_init (mkc zE (11, 0)) 0 with
  | none => rw [e1] at h; cases h
  | some z2 =>
    rw [e1] at h
    simp only at h
    cases e2 : K_X12_init (mkc z2 (12, 0)) 134 with
    | none => rw [e2] at h; cases h
    | some z4 =>
      rw [e2] at h
      simp only [Bool.and_eq_true, decide_eq_true_eq, List.all_eq_true, List.mem_range] at h
      exact ⟨z2, z4, rfl, e2, h.1, h.2.1, h.2.2.1, h.2.2.2⟩
theorem arrV_cg {cI : ClassId} {N : Nat} {f g : Nat → Value} (h : ∀ j, j < N → f j = g j) : arrV cI N f = arrV cI N g := by
  unfold arrV
  congr 1
  apply Array.ext
  · simp
  · intro i h1 h2
    simp at h1
    simp [h i h1]
theorem va_at_tr {G G' : Gv} (e1 : G'.1 = G.1) (e2 : G'.2.1 = G.2.1) {kd : Nat × Nat} {q : Nat} {I I' : Nat → Int32} {J J' : Nat → Int64} {K K' : Nat → Option Nat} {H : Heap} (hkd : kd.1 < 13 ∨ 20 ≤ kd.1) (hI : ∀ k, I k = I' k) (hJ : ∀ k, J k = J' k)
    (hK : ∀ k, k < (if kd.1 < 13 then NF kd.1 else if kd.1 < 23 then 0 else kd.2) → (K k).map (fun x => G.2.2.1.1 + x) = (K' k).map (fun x => G'.2.2.1.1 + x)) (h : va_at G.1 vwCl (q, cer G kd I J K) H) : va_at G'.1 vwCl (q, cer G' kd I' J' K') H := by
  obtain rfl : I = I' := funext hI
  obtain rfl : J = J' := funext hJ
  obtain ⟨k1, k2⟩ := kd
  rw [e1]
  by_cases h1 : k1 < 13
  · have e : fl G.2.2.1.1 I J K k1 = fl G'.2.2.1.1 I J K' k1 := by
      refine List.map_congr_left (fun k hk => ?_)
      have hk' := hK k (by simpa [h1] using hk)
      show fv _ _ _ _ _ _ = fv _ _ _ _ _ _
      unfold fv
      rw [hk']
    rw [cer_o h1] at h ⊢
    rw [← e]
    exact h
  · by_cases h20 : k1 = 20
    · subst h20; rw [cer_i] at h ⊢; rw [e2]; exact h
    · by_cases h21 : k1 = 21
      · subst h21; rw [cer_j] at h ⊢; rw [e2]; exact h
      · by_cases h22 : k1 = 22
        · subst h22; rw [cer_z] at h ⊢; rw [e2]; exact h
        · have h23 : ¬ k1 < 23 := by
            rcases hkd with q | q
            · exact absurd q h1
            · have : 20 ≤ k1 := q
              omega
          have key : ∀ c : ClassId, H[q]? = some (vp_cell c (k2, .inr (.inr (.inr (.inr (fun j => (K j).map (fun x => G.2.2.1.1 + x))))))) → H[q]? = some (vp_cell c (k2, .inr (.inr (.inr (.inr (fun j => (K' j).map (fun x => G'.2.2.1.1 + x))))))) := by
            intro c hc
            rw [hc, vp_cell_q, vp_cell_q]
            refine congrArg some (arrV_cg (fun j hj => ?_))
            rw [hK j (by simpa [h1, h23] using hj)]
          by_cases h0 : k1 = 23
          · subst h0
            rw [cer_m] at h ⊢
            rw [e2]
            exact key _ h
          · have ec : ∀ (G : Gv) (K : Nat → Option Nat), cer G (k1, k2) I J K = .inl (G.2.1 4, k2, .inr (.inr (.inr (.inr (fun j => (K j).map (fun x => G.2.2.1.1 + x)))))) := by
              intro G K
              simp [cer, h1, h20, h21, h22, h0]
            rw [ec] at h ⊢
            rw [e2]
            exact key _ h
/-- a stretch of a world, as a world of its own -/
theorem Hd_tr {G G' : Gv} (e1 : G'.1 = G.1) (e2 : G'.2.1 = G.2.1) {off n N : Nat} (e3 : G'.2.2.1 = (G.2.2.1.1 + off, G.2.2.1.1 + off + n)) {z : CSt} {sh : Shp} {σ : Sto} {H : Heap} (hz : z.2.1 = N) (hN : off + n ≤ N) (h : Hd G z.1 (z.2.1, true) z.2.2 H) (hsh : ∀ a, (sh a).1 ≠ 99 → a < n) (hk : ∀ a, a < n → (sh a).1 < 13 ∨ 20 ≤ (sh a).1)
    (hI : ∀ a j, a < n → z.2.2.1 (off + a) j = σ.1 a j) (hJ : ∀ a j, a < n → z.2.2.2.1 (off + a) j = σ.2.1 a j) (hc : ∀ a, a < n → eqS z off sh σ a = true) : Hd G' sh (n, false) σ H := by
  refine ⟨fun k q hq => ?_, hsh, ?_, (fun q => by cases q), Or.inr ?_⟩
  · obtain ⟨hk1, eq⟩ := wl_get hq
    subst eq
    have hk1 : k < n := hk1
    have hce := hc k hk1
    simp only [eqS, Bool.and_eq_true, decide_eq_true_eq, List.all_eq_true, List.mem_range] at hce
    obtain ⟨hs1, hs2⟩ := hce
    have h1 := h.1 (off + k) _ (wl_at (show off + k < z.2.1 by omega))
    rw [ce_at hs1] at h1
    have ea : G'.2.2.1.1 + k = G.2.2.1.1 + (off + k) := by rw [e3]; show G.2.2.1.1 + off + k = _; omega
    rw [ea]
    refine va_at_tr e1 e2 (hk k hk1) (fun j => hI k j hk1) (fun j => hJ k j hk1) (fun j hj => ?_) h1
    rw [hs2 j hj, Option.map_map]
    congr 1
    funext x
    show G.2.2.1.1 + (off + x) = G'.2.2.1.1 + x
    rw [e3]
    show _ = G.2.2.1.1 + off + x
    omega
  · rw [e3]
    show G.2.2.1.1 + off + n ≤ H.size
    have := h.2.2.1
    have : G.2.2.1.1 + z.2.1 ≤ H.size := this
    omega
  · rw [e3]
    exact Nat.le_refl _
theorem shC_kd : ∀ a, a < 134 → (shC a).1 < 13 ∨ 20 ≤ (shC a).1 := by decide +kernel
theorem shM_kd : ∀ a, a < 19 → (shM a).1 < 13 ∨ 20 ≤ (shM a).1 := by decide +kernel
theorem shC_top {a : Nat} (h : (shC a).1 ≠ 99) : a < 134 := shC_lt rfl (fun e => h e.symm)
theorem shM_top {a : Nat} (h : (shM a).1 ≠ 99) : a < 19 := shM_lt rfl (fun e => h e.symm)
theorem zE_ZI : ZI zE := ⟨fun _ _ => rfl, fun _ _ => rfl⟩
