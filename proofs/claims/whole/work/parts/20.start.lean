def tmT (i : Nat) : Term := .string "BasketCap$Reader" (([109, 97, 99, 101, 103, 105, 107, 115, 89, 91, 93, 95] : List Nat).getD i 0)
theorem fx1 : ∀ i, i < 12 → Cond.exactly (tmT i) "java/lang/String" ∈ flatC (Jvm.Cond.and given_1 narrow_1) := by decide +kernel
theorem fx2 : ∀ i, i < 12 → Cond.eq (.field (tmT i) "java/lang/String" "coder" "B") (.int 0) ∈ flatC (Jvm.Cond.and given_1 narrow_1) := by decide +kernel
theorem fx3 : ∀ i, i < 12 → Cond.arrayOf (.field (tmT i) "java/lang/String" "value" "[B") .byte ∈ flatC (Jvm.Cond.and given_1 narrow_1) := by decide +kernel
theorem fx4 : ∀ i, i < 12 → Cond.eq (.length (.field (tmT i) "java/lang/String" "value" "[B")) (.int (Int32.ofNat (lenTx.getD i 0))) ∈ flatC (Jvm.Cond.and given_1 narrow_1) := by decide +kernel
theorem fx5 : ∀ i, i < 12 → ∀ j, j < lenTx.getD i 0 → Cond.eq (.elem (.field (tmT i) "java/lang/String" "value" "[B") (.int (Int32.ofNat j))) (.int ((bytTx.getD i []).getD j 0)) ∈ flatC (Jvm.Cond.and given_1 narrow_1) := by decide +kernel
theorem fx6_0_1 : Cond.not (Cond.eq (tmT 0) (tmT 1)) ∈ flatC (Jvm.Cond.and given_1 narrow_1) := by decide +kernel
theorem fx6_0_2 : Cond.not (Cond.eq (tmT 0) (tmT 2)) ∈ flatC (Jvm.Cond.and given_1 narrow_1) := by decide +kernel
theorem fx6_0_3 : Cond.not (Cond.eq (tmT 0) (tmT 3)) ∈ flatC (Jvm.Cond.and given_1 narrow_1) := by decide +kernel
theorem fx6_0_4 : Cond.not (Cond.eq (tmT 0) (tmT 4)) ∈ flatC (Jvm.Cond.and given_1 narrow_1) := by decide +kernel
theorem fx6_0_5 : Cond.not (Cond.eq (tmT 0) (tmT 5)) ∈ flatC (Jvm.Cond.and given_1 narrow_1) := by decide +kernel
theorem fx6_0_6 : Cond.not (Cond.eq (tmT 0) (tmT 6)) ∈ flatC (Jvm.Cond.and given_1 narrow_1) := by decide +kernel
theorem fx6_0_7 : Cond.not (Cond.eq (tmT 0) (tmT 7)) ∈ flatC (Jvm.Cond.and given_1 narrow_1) := by decide +kernel
theorem fx6_0_8 : Cond.not (Cond.eq (tmT 0) (tmT 8)) ∈ flatC (Jvm.Cond.and given_1 narrow_1) := by decide +kernel
theorem fx6_0_9 : Cond.not (Cond.eq (tmT 0) (tmT 9)) ∈ flatC (Jvm.Cond.and given_1 narrow_1) := by decide +kernel
theorem fx6_0_10 : Cond.not (Cond.eq (tmT 0) (tmT 10)) ∈ flatC (Jvm.Cond.and given_1 narrow_1) := by decide +kernel
theorem fx6_0_11 : Cond.not (Cond.eq (tmT 0) (tmT 11)) ∈ flatC (Jvm.Cond.and given_1 narrow_1) := by decide +kernel
theorem fx6_1_2 : Cond.not (Cond.eq (tmT 1) (tmT 2)) ∈ flatC (Jvm.Cond.and given_1 narrow_1) := by decide +kernel
theorem fx6_1_3 : Cond.not (Cond.eq (tmT 1) (tmT 3)) ∈ flatC (Jvm.Cond.and given_1 narrow_1) := by decide +kernel
theorem fx6_1_4 : Cond.not (Cond.eq (tmT 1) (tmT 4)) ∈ flatC (Jvm.Cond.and given_1 narrow_1) := by decide +kernel
theorem fx6_1_5 : Cond.not (Cond.eq (tmT 1) (tmT 5)) ∈ flatC (Jvm.Cond.and given_1 narrow_1) := by decide +kernel
theorem fx6_1_6 : Cond.not (Cond.eq (tmT 1) (tmT 6)) ∈ flatC (Jvm.Cond.and given_1 narrow_1) := by decide +kernel
theorem fx6_1_7 : Cond.not (Cond.eq (tmT 7) (tmT 1)) ∈ flatC (Jvm.Cond.and given_1 narrow_1) := by decide +kernel
theorem fx6_1_8 : Cond.not (Cond.eq (tmT 8) (tmT 1)) ∈ flatC (Jvm.Cond.and given_1 narrow_1) := by decide +kernel
theorem fx6_1_9 : Cond.not (Cond.eq (tmT 9) (tmT 1)) ∈ flatC (Jvm.Cond.and given_1 narrow_1) := by decide +kernel
theorem fx6_1_10 : Cond.not (Cond.eq (tmT 10) (tmT 1)) ∈ flatC (Jvm.Cond.and given_1 narrow_1) := by decide +kernel
theorem fx6_1_11 : Cond.not (Cond.eq (tmT 11) (tmT 1)) ∈ flatC (Jvm.Cond.and given_1 narrow_1) := by decide +kernel
theorem fx6_2_3 : Cond.not (Cond.eq (tmT 2) (tmT 3)) ∈ flatC (Jvm.Cond.and given_1 narrow_1) := by decide +kernel
theorem fx6_2_4 : Cond.not (Cond.eq (tmT 2) (tmT 4)) ∈ flatC (Jvm.Cond.and given_1 narrow_1) := by decide +kernel
theorem fx6_2_5 : Cond.not (Cond.eq (tmT 2) (tmT 5)) ∈ flatC (Jvm.Cond.and given_1 narrow_1) := by decide +kernel
theorem fx6_2_6 : Cond.not (Cond.eq (tmT 2) (tmT 6)) ∈ flatC (Jvm.Cond.and given_1 narrow_1) := by decide +kernel
theorem fx6_2_7 : Cond.not (Cond.eq (tmT 7) (tmT 2)) ∈ flatC (Jvm.Cond.and given_1 narrow_1) := by decide +kernel
theorem fx6_2_8 : Cond.not (Cond.eq (tmT 8) (tmT 2)) ∈ flatC (Jvm.Cond.and given_1 narrow_1) := by decide +kernel
theorem fx6_2_9 : Cond.not (Cond.eq (tmT 9) (tmT 2)) ∈ flatC (Jvm.Cond.and given_1 narrow_1) := by decide +kernel
theorem fx6_2_10 : Cond.not (Cond.eq (tmT 10) (tmT 2)) ∈ flatC (Jvm.Cond.and given_1 narrow_1) := by decide +kernel
theorem fx6_2_11 : Cond.not (Cond.eq (tmT 11) (tmT 2)) ∈ flatC (Jvm.Cond.and given_1 narrow_1) := by decide +kernel
theorem fx6_3_4 : Cond.not (Cond.eq (tmT 3) (tmT 4)) ∈ flatC (Jvm.Cond.and given_1 narrow_1) := by decide +kernel
theorem fx6_3_5 : Cond.not (Cond.eq (tmT 3) (tmT 5)) ∈ flatC (Jvm.Cond.and given_1 narrow_1) := by decide +kernel
theorem fx6_3_6 : Cond.not (Cond.eq (tmT 3) (tmT 6)) ∈ flatC (Jvm.Cond.and given_1 narrow_1) := by decide +kernel
theorem fx6_3_7 : Cond.not (Cond.eq (tmT 7) (tmT 3)) ∈ flatC (Jvm.Cond.and given_1 narrow_1) := by decide +kernel
theorem fx6_3_8 : Cond.not (Cond.eq (tmT 8) (tmT 3)) ∈ flatC (Jvm.Cond.and given_1 narrow_1) := by decide +kernel
theorem fx6_3_9 : Cond.not (Cond.eq (tmT 9) (tmT 3)) ∈ flatC (Jvm.Cond.and given_1 narrow_1) := by decide +kernel
theorem fx6_3_10 : Cond.not (Cond.eq (tmT 10) (tmT 3)) ∈ flatC (Jvm.Cond.and given_1 narrow_1) := by decide +kernel
theorem fx6_3_11 : Cond.not (Cond.eq (tmT 11) (tmT 3)) ∈ flatC (Jvm.Cond.and given_1 narrow_1) := by decide +kernel
theorem fx6_4_5 : Cond.not (Cond.eq (tmT 4) (tmT 5)) ∈ flatC (Jvm.Cond.and given_1 narrow_1) := by decide +kernel
theorem fx6_4_6 : Cond.not (Cond.eq (tmT 4) (tmT 6)) ∈ flatC (Jvm.Cond.and given_1 narrow_1) := by decide +kernel
theorem fx6_4_7 : Cond.not (Cond.eq (tmT 7) (tmT 4)) ∈ flatC (Jvm.Cond.and given_1 narrow_1) := by decide +kernel
theorem fx6_4_8 : Cond.not (Cond.eq (tmT 8) (tmT 4)) ∈ flatC (Jvm.Cond.and given_1 narrow_1) := by decide +kernel
theorem fx6_4_9 : Cond.not (Cond.eq (tmT 9) (tmT 4)) ∈ flatC (Jvm.Cond.and given_1 narrow_1) := by decide +kernel
theorem fx6_4_10 : Cond.not (Cond.eq (tmT 10) (tmT 4)) ∈ flatC (Jvm.Cond.and given_1 narrow_1) := by decide +kernel
theorem fx6_4_11 : Cond.not (Cond.eq (tmT 11) (tmT 4)) ∈ flatC (Jvm.Cond.and given_1 narrow_1) := by decide +kernel
theorem fx6_5_6 : Cond.not (Cond.eq (tmT 5) (tmT 6)) ∈ flatC (Jvm.Cond.and given_1 narrow_1) := by decide +kernel
theorem fx6_5_7 : Cond.not (Cond.eq (tmT 7) (tmT 5)) ∈ flatC (Jvm.Cond.and given_1 narrow_1) := by decide +kernel
theorem fx6_5_8 : Cond.not (Cond.eq (tmT 8) (tmT 5)) ∈ flatC (Jvm.Cond.and given_1 narrow_1) := by decide +kernel
theorem fx6_5_9 : Cond.not (Cond.eq (tmT 9) (tmT 5)) ∈ flatC (Jvm.Cond.and given_1 narrow_1) := by decide +kernel
theorem fx6_5_10 : Cond.not (Cond.eq (tmT 10) (tmT 5)) ∈ flatC (Jvm.Cond.and given_1 narrow_1) := by decide +kernel
theorem fx6_5_11 : Cond.not (Cond.eq (tmT 11) (tmT 5)) ∈ flatC (Jvm.Cond.and given_1 narrow_1) := by decide +kernel
theorem fx6_6_7 : Cond.not (Cond.eq (tmT 7) (tmT 6)) ∈ flatC (Jvm.Cond.and given_1 narrow_1) := by decide +kernel
theorem fx6_6_8 : Cond.not (Cond.eq (tmT 8) (tmT 6)) ∈ flatC (Jvm.Cond.and given_1 narrow_1) := by decide +kernel
theorem fx6_6_9 : Cond.not (Cond.eq (tmT 9) (tmT 6)) ∈ flatC (Jvm.Cond.and given_1 narrow_1) := by decide +kernel
theorem fx6_6_10 : Cond.not (Cond.eq (tmT 10) (tmT 6)) ∈ flatC (Jvm.Cond.and given_1 narrow_1) := by decide +kernel
theorem fx6_6_11 : Cond.not (Cond.eq (tmT 11) (tmT 6)) ∈ flatC (Jvm.Cond.and given_1 narrow_1) := by decide +kernel
theorem fx6_7_8 : Cond.not (Cond.eq (tmT 7) (tmT 8)) ∈ flatC (Jvm.Cond.and given_1 narrow_1) := by decide +kernel
theorem fx6_7_9 : Cond.not (Cond.eq (tmT 7) (tmT 9)) ∈ flatC (Jvm.Cond.and given_1 narrow_1) := by decide +kernel
theorem fx6_7_10 : Cond.not (Cond.eq (tmT 7) (tmT 10)) ∈ flatC (Jvm.Cond.and given_1 narrow_1) := by decide +kernel
theorem fx6_7_11 : Cond.not (Cond.eq (tmT 7) (tmT 11)) ∈ flatC (Jvm.Cond.and given_1 narrow_1) := by decide +kernel
theorem fx6_8_9 : Cond.not (Cond.eq (tmT 8) (tmT 9)) ∈ flatC (Jvm.Cond.and given_1 narrow_1) := by decide +kernel
theorem fx6_8_10 : Cond.not (Cond.eq (tmT 8) (tmT 10)) ∈ flatC (Jvm.Cond.and given_1 narrow_1) := by decide +kernel
theorem fx6_8_11 : Cond.not (Cond.eq (tmT 8) (tmT 11)) ∈ flatC (Jvm.Cond.and given_1 narrow_1) := by decide +kernel
theorem fx6_9_10 : Cond.not (Cond.eq (tmT 9) (tmT 10)) ∈ flatC (Jvm.Cond.and given_1 narrow_1) := by decide +kernel
theorem fx6_9_11 : Cond.not (Cond.eq (tmT 9) (tmT 11)) ∈ flatC (Jvm.Cond.and given_1 narrow_1) := by decide +kernel
theorem fx6_10_11 : Cond.not (Cond.eq (tmT 10) (tmT 11)) ∈ flatC (Jvm.Cond.and given_1 narrow_1) := by decide +kernel
theorem fx6 : ∀ i j : Nat, i < 12 → j < 12 → i ≠ j → Cond.not (Cond.eq (tmT i) (tmT j)) ∈ flatC (Jvm.Cond.and given_1 narrow_1) ∨ Cond.not (Cond.eq (tmT j) (tmT i)) ∈ flatC (Jvm.Cond.and given_1 narrow_1) := fun i j hi hj hne => match i, j, hi, hj, hne with
  | 0, 1, _, _, _ => Or.inl fx6_0_1
  | 1, 0, _, _, _ => Or.inr fx6_0_1
  | 0, 2, _, _, _ => Or.inl fx6_0_2
  | 2, 0, _, _, _ => Or.inr fx6_0_2
  | 0, 3, _, _, _ => Or.inl fx6_0_3
  | 3, 0, _, _, _ => Or.inr fx6_0_3
  | 0, 4, _, _, _ => Or.inl fx6_0_4
  | 4, 0, _, _, _ => Or.inr fx6_0_4
  | 0, 5, _, _, _ => Or.inl fx6_0_5
  | 5, 0, _, _, _ => Or.inr fx6_0_5
  | 0, 6, _, _, _ => Or.inl fx6_0_6
  | 6, 0, _, _, _ => Or.inr fx6_0_6
  | 0, 7, _, _, _ => Or.inl fx6_0_7
  | 7, 0, _, _, _ => Or.inr fx6_0_7
  | 0, 8, _, _, _ => Or.inl fx6_0_8
  | 8, 0, _, _, _ => Or.inr fx6_0_8
  | 0, 9, _, _, _ => Or.inl fx6_0_9
  | 9, 0, _, _, _ => Or.inr fx6_0_9
  | 0, 10, _, _, _ => Or.inl fx6_0_10
  | 10, 0, _, _, _ => Or.inr fx6_0_10
  | 0, 11, _, _, _ => Or.inl fx6_0_11
  | 11, 0, _, _, _ => Or.inr fx6_0_11
  | 1, 2, _, _, _ => Or.inl fx6_1_2
  | 2, 1, _, _, _ => Or.inr fx6_1_2
  | 1, 3, _, _, _ => Or.inl fx6_1_3
  | 3, 1, _, _, _ => Or.inr fx6_1_3
  | 1, 4, _, _, _ => Or.inl fx6_1_4
  | 4, 1, _, _, _ => Or.inr fx6_1_4
  | 1, 5, _, _, _ => Or.inl fx6_1_5
  | 5, 1, _, _, _ => Or.inr fx6_1_5
  | 1, 6, _, _, _ => Or.inl fx6_1_6
  | 6, 1, _, _, _ => Or.inr fx6_1_6
  | 1, 7, _, _, _ => Or.inr fx6_1_7
  | 7, 1, _, _, _ => Or.inl fx6_1_7
  | 1, 8, _, _, _ => Or.inr fx6_1_8
  | 8, 1, _, _, _ => Or.inl fx6_1_8
  | 1, 9, _, _, _ => Or.inr fx6_1_9
  | 9, 1, _, _, _ => Or.inl fx6_1_9
  | 1, 10, _, _, _ => Or.inr fx6_1_10
  | 10, 1, _, _, _ => Or.inl fx6_1_10
  | 1, 11, _, _, _ => Or.inr fx6_1_11
  | 11, 1, _, _, _ => Or.inl fx6_1_11
  | 2, 3, _, _, _ => Or.inl fx6_2_3
  | 3, 2, _, _, _ => Or.inr fx6_2_3
  | 2, 4, _, _, _ => Or.inl fx6_2_4
  | 4, 2, _, _, _ => Or.inr fx6_2_4
  | 2, 5, _, _, _ => Or.inl fx6_2_5
  | 5, 2, _, _, _ => Or.inr fx6_2_5
  | 2, 6, _, _, _ => Or.inl fx6_2_6
  | 6, 2, _, _, _ => Or.inr fx6_2_6
  | 2, 7, _, _, _ => Or.inr fx6_2_7
  | 7, 2, _, _, _ => Or.inl fx6_2_7
  | 2, 8, _, _, _ => Or.inr fx6_2_8
  | 8, 2, _, _, _ => Or.inl fx6_2_8
  | 2, 9, _, _, _ => Or.inr fx6_2_9
  | 9, 2, _, _, _ => Or.inl fx6_2_9
  | 2, 10, _, _, _ => Or.inr fx6_2_10
  | 10, 2, _, _, _ => Or.inl fx6_2_10
  | 2, 11, _, _, _ => Or.inr fx6_2_11
  | 11, 2, _, _, _ => Or.inl fx6_2_11
  | 3, 4, _, _, _ => Or.inl fx6_3_4
  | 4, 3, _, _, _ => Or.inr fx6_3_4
  | 3, 5, _, _, _ => Or.inl fx6_3_5
  | 5, 3, _, _, _ => Or.inr fx6_3_5
  | 3, 6, _, _, _ => Or.inl fx6_3_6
  | 6, 3, _, _, _ => Or.inr fx6_3_6
  | 3, 7, _, _, _ => Or.inr fx6_3_7
  | 7, 3, _, _, _ => Or.inl fx6_3_7
  | 3, 8, _, _, _ => Or.inr fx6_3_8
  | 8, 3, _, _, _ => Or.inl fx6_3_8
  | 3, 9, _, _, _ => Or.inr fx6_3_9
  | 9, 3, _, _, _ => Or.inl fx6_3_9
  | 3, 10, _, _, _ => Or.inr fx6_3_10
  | 10, 3, _, _, _ => Or.inl fx6_3_10
  | 3, 11, _, _, _ => Or.inr fx6_3_11
  | 11, 3, _, _, _ => Or.inl fx6_3_11
  | 4, 5, _, _, _ => Or.inl fx6_4_5
  | 5, 4, _, _, _ => Or.inr fx6_4_5
  | 4, 6, _, _, _ => Or.inl fx6_4_6
  | 6, 4, _, _, _ => Or.inr fx6_4_6
  | 4, 7, _, _, _ => Or.inr fx6_4_7
  | 7, 4, _, _, _ => Or.inl fx6_4_7
  | 4, 8, _, _, _ => Or.inr fx6_4_8
  | 8, 4, _, _, _ => Or.inl fx6_4_8
  | 4, 9, _, _, _ => Or.inr fx6_4_9
  | 9, 4, _, _, _ => Or.inl fx6_4_9
  | 4, 10, _, _, _ => Or.inr fx6_4_10
  | 10, 4, _, _, _ => Or.inl fx6_4_10
  | 4, 11, _, _, _ => Or.inr fx6_4_11
  | 11, 4, _, _, _ => Or.inl fx6_4_11
  | 5, 6, _, _, _ => Or.inl fx6_5_6
  | 6, 5, _, _, _ => Or.inr fx6_5_6
  | 5, 7, _, _, _ => Or.inr fx6_5_7
  | 7, 5, _, _, _ => Or.inl fx6_5_7
  | 5, 8, _, _, _ => Or.inr fx6_5_8
  | 8, 5, _, _, _ => Or.inl fx6_5_8
  | 5, 9, _, _, _ => Or.inr fx6_5_9
  | 9, 5, _, _, _ => Or.inl fx6_5_9
  | 5, 10, _, _, _ => Or.inr fx6_5_10
  | 10, 5, _, _, _ => Or.inl fx6_5_10
  | 5, 11, _, _, _ => Or.inr fx6_5_11
  | 11, 5, _, _, _ => Or.inl fx6_5_11
  | 6, 7, _, _, _ => Or.inr fx6_6_7
  | 7, 6, _, _, _ => Or.inl fx6_6_7
  | 6, 8, _, _, _ => Or.inr fx6_6_8
  | 8, 6, _, _, _ => Or.inl fx6_6_8
  | 6, 9, _, _, _ => Or.inr fx6_6_9
  | 9, 6, _, _, _ => Or.inl fx6_6_9
  | 6, 10, _, _, _ => Or.inr fx6_6_10
  | 10, 6, _, _, _ => Or.inl fx6_6_10
  | 6, 11, _, _, _ => Or.inr fx6_6_11
  | 11, 6, _, _, _ => Or.inl fx6_6_11
  | 7, 8, _, _, _ => Or.inl fx6_7_8
  | 8, 7, _, _, _ => Or.inr fx6_7_8
  | 7, 9, _, _, _ => Or.inl fx6_7_9
  | 9, 7, _, _, _ => Or.inr fx6_7_9
  | 7, 10, _, _, _ => Or.inl fx6_7_10
  | 10, 7, _, _, _ => Or.inr fx6_7_10
  | 7, 11, _, _, _ => Or.inl fx6_7_11
  | 11, 7, _, _, _ => Or.inr fx6_7_11
  | 8, 9, _, _, _ => Or.inl fx6_8_9
  | 9, 8, _, _, _ => Or.inr fx6_8_9
  | 8, 10, _, _, _ => Or.inl fx6_8_10
  | 10, 8, _, _, _ => Or.inr fx6_8_10
  | 8, 11, _, _, _ => Or.inl fx6_8_11
  | 11, 8, _, _, _ => Or.inr fx6_8_11
  | 9, 10, _, _, _ => Or.inl fx6_9_10
  | 10, 9, _, _, _ => Or.inr fx6_9_10
  | 9, 11, _, _, _ => Or.inl fx6_9_11
  | 11, 9, _, _, _ => Or.inr fx6_9_11
  | 10, 11, _, _, _ => Or.inl fx6_10_11
  | 11, 10, _, _, _ => Or.inr fx6_10_11
  | 0, 0, _, _, h => absurd rfl h
  | 1, 1, _, _, h => absurd rfl h
  | 2, 2, _, _, h => absurd rfl h
  | 3, 3, _, _, h => absurd rfl h
  | 4, 4, _, _, h => absurd rfl h
  | 5, 5, _, _, h => absurd rfl h
  | 6, 6, _, _, h => absurd rfl h
  | 7, 7, _, _, h => absurd rfl h
  | 8, 8, _, _, h => absurd rfl h
  | 9, 9, _, _, h => absurd rfl h
  | 10, 10, _, _, h => absurd rfl h
  | 11, 11, _, _, h => absurd rfl h
  | i + 12, _, h, _, _ => absurd h (by omega)
  | _, j + 12, _, h, _ => absurd h (by omega)
theorem fx7 : ∀ q ∈ refTx, q.2.2.2 < 12 ∧ Cond.stringRef q.1 q.2.1 q.2.2.1 ∈ tables_1 ∧ (Term.string q.1 q.2.1 = tmT q.2.2.2 ∨ Cond.eq (tmT q.2.2.2) (Term.string q.1 q.2.1) ∈ flatC (Jvm.Cond.and given_1 narrow_1)) := by decide +kernel
theorem fx8 : Cond.eq (.static "java/lang/String" "COMPACT_STRINGS" "Z") (.int 1) ∈ flatC (Jvm.Cond.and given_1 narrow_1) := by decide +kernel
theorem fx9 : Cond.isRef (.static "jdk/internal/util/Preconditions" "SIOOBE_FORMATTER" "Ljava/util/function/BiFunction;") ∈ flatC (Jvm.Cond.and given_1 narrow_1) ∧ Cond.isRef (.static Bundle.tN "UNASSIGNED_STACK" Bundle.steD) ∈ flatC (Jvm.Cond.and given_1 narrow_1) ∧ Cond.isRef (.static Bundle.tN "SUPPRESSED_SENTINEL" Bundle.listD) ∈ flatC (Jvm.Cond.and given_1 narrow_1) := by decide +kernel
theorem fx10 : ∀ q ∈ nestL, Cond.methodLinkNest q.1 q.2.1 q.2.2.1 q.2.2.2 ∈ tables_1 := by decide +kernel
theorem fx11 : Cond.laysStatic "java/lang/String" "COMPACT_STRINGS" "Z" ∈ tables_1 ∧ Cond.laysStatic "jdk/internal/util/Preconditions" "SIOOBE_FORMATTER" "Ljava/util/function/BiFunction;" ∈ tables_1 ∧ Cond.laysStatic Bundle.tN "UNASSIGNED_STACK" Bundle.steD ∈ tables_1 ∧ Cond.laysStatic Bundle.tN "SUPPRESSED_SENTINEL" Bundle.listD ∈ tables_1 ∧ Cond.initialized Bundle.tN ∈ tables_1 ∧ Cond.arrayOver (.object "BasketCap$Image") ∈ tables_1 ∧ Cond.arrayOver (.object "BasketCap$Year") ∈ tables_1 := by decide +kernel
theorem tx_lt : ∀ i, i < 12 → lenTx.getD i 0 < 2 ^ 31 := fun i hi => Nat.lt_trans (tx_len i hi) (by decide)
theorem arr_of {s : State} {args : Array Value} {ty : FieldType} (h : (Cond.arrayClass ty).before args s = true) (hp : ∀ C, ty ≠ .object C) : ∃ cA, ArrOfT s cA ty ∧ va_RA s cA ty := by
  obtain ⟨cA, kA, comp, f1, f2, f3⟩ := Cond.arrayClass_spec h
  refine ⟨cA, fun n z => ⟨fun k h => (by cases h), kA, f2, comp, f3⟩, ?_⟩
  cases ty with
  | object C => exact absurd rfl (hp C)
  | _ => exact f1
theorem arr_ov {s : State} {args : Array Value} {C : String} (h : (Cond.arrayOver (.object C)).before args s = true) : ∃ cA, ArrOfT s cA (.object C) ∧ va_RA s cA (.object C) := by
  obtain ⟨comp, cA, kA, f1, -, f2, f3, f4⟩ := Cond.arrayOver_spec h
  exact ⟨cA, fun n z => ⟨fun k h => (by cases h), kA, f2, comp, f3⟩, kA, comp, f2, f3, f1, f4⟩
set_option maxRecDepth 100000 in
set_option maxHeartbeats 4000000 in
theorem start_K {s : State} {args : Array Value} (hts : ∀ w ∈ lw_tbl, w.before args s = true) : ∃ (D : va_G) (ci : Nat → ClassId), ∀ (tx : Nat → Nat) (b0 b1 : Nat), va_K D vwCl (tyl (lG D ci tx b0 b1)) s := by
  have hw : ∀ w ∈ WS, w.before args s = true := fun w h => hts w (ws_tbl w h)
  have hr : ∀ w ∈ tables_1, w.before args s = true := fun w h => hts w (List.mem_append_right _ h)
  obtain ⟨c0, i0, k0⟩ := u_known (C := RX0) (T := TX0) (N := 1) (n := 1) hw cf_X0.2.2.2.1 (hw _ ins_X0)
  obtain ⟨c1, i1, k1⟩ := u_known (C := RX1) (T := TX1) (N := 2) (n := 2) hw cf_X1.2.2.2.1 (hw _ ins_X1)
  obtain ⟨c2, i2, k2⟩ := u_known (C := RX2) (T := TX2) (N := 7) (n := 7) hw cf_X2.2.2.2.1 (hw _ ins_X2)
  obtain ⟨c3, i3, k3⟩ := u_known (C := RX3) (T := TX3) (N := 3) (n := 3) hw cf_X3.2.2.2.1 (hw _ ins_X3)
  obtain ⟨c4, i4, k4⟩ := u_known (C := RX4) (T := TX4) (N := 11) (n := 11) hw cf_X4.2.2.2.1 (hw _ ins_X4)
  obtain ⟨c5, i5, k5⟩ := u_known (C := RX5) (T := TX5) (N := 3) (n := 3) hw cf_X5.2.2.2.1 (hw _ ins_X5)
  obtain ⟨c6, i6, k6⟩ := u_known (C := RX6) (T := TX6) (N := 11) (n := 11) hw cf_X6.2.2.2.1 (hw _ ins_X6)
  obtain ⟨c7, i7, k7⟩ := u_known (C := RX7) (T := TX7) (N := 4) (n := 4) hw cf_X7.2.2.2.1 (hw _ ins_X7)
  obtain ⟨c8, i8, k8⟩ := u_known (C := RX8) (T := TX8) (N := 15) (n := 15) hw cf_X8.2.2.2.1 (hw _ ins_X8)
  obtain ⟨c9, i9, k9⟩ := u_known (C := RX9) (T := TX9) (N := 9) (n := 9) hw cf_X9.2.2.2.1 (hw _ ins_X9)
  obtain ⟨c10, i10, k10⟩ := u_known (C := RX10) (T := TX10) (N := 6) (n := 6) hw cf_X10.2.2.2.1 (hw _ ins_X10)
  obtain ⟨c11, i11, k11⟩ := u_known (C := RX11) (T := TX11) (N := 19) (n := 19) hw cf_X11.2.2.2.1 (hw _ ins_X11)
  obtain ⟨c12, i12, k12⟩ := u_known (C := RX12) (T := TX12) (N := 51) (n := 51) hw cf_X12.2.2.2.1 (hw _ ins_X12)
  obtain ⟨a0, y0⟩ := arr_of (hw _ ac_int) (fun C h => by cases h)
  obtain ⟨a1, y1⟩ := arr_of (hw _ ac_long) (fun C h => by cases h)
  obtain ⟨a2, y2⟩ := arr_of (hw _ ac_boolean) (fun C h => by cases h)
  obtain ⟨a3, y3⟩ := arr_ov (hr _ fx11.2.2.2.2.2.1)
  obtain ⟨a4, y4⟩ := arr_ov (hr _ fx11.2.2.2.2.2.2)
  refine ⟨(fun k => match k with | 0 => c0 | 1 => c1 | 2 => c2 | 3 => c3 | 4 => c4 | 5 => c5 | 6 => c6 | 7 => c7 | 8 => c8 | 9 => c9 | 10 => c10 | 11 => c11 | _ => c12, fun k => match k with | 0 => i0 | 1 => i1 | 2 => i2 | 3 => i3 | 4 => i4 | 5 => i5 | 6 => i6 | 7 => i7 | 8 => i8 | 9 => i9 | 10 => i10 | 11 => i11 | _ => i12), fun k => match k with | 0 => a0 | 1 => a1 | 2 => a2 | 3 => a3 | _ => a4, fun tx b0 b1 => ⟨fun k q hq => ?_, fun k q hq => ?_⟩⟩
  · match k, hq with
    | 0, hq => cases hq; exact k0
    | 1, hq => cases hq; exact k1
    | 2, hq => cases hq; exact k2
    | 3, hq => cases hq; exact k3
    | 4, hq => cases hq; exact k4
    | 5, hq => cases hq; exact k5
    | 6, hq => cases hq; exact k6
    | 7, hq => cases hq; exact k7
    | 8, hq => cases hq; exact k8
    | 9, hq => cases hq; exact k9
    | 10, hq => cases hq; exact k10
    | 11, hq => cases hq; exact k11
    | 12, hq => cases hq; exact k12
    | k + 13, hq => simp [vwCl] at hq
  · match k, hq with
    | 0, hq => cases hq; exact y0
    | 1, hq => cases hq; exact y1
    | 2, hq => cases hq; exact y2
    | 3, hq => cases hq; exact y3
    | 4, hq => cases hq; exact y4
    | k + 5, hq => simp [tyl] at hq
set_option maxRecDepth 100000 in
set_option maxHeartbeats 4000000 in
theorem start_E {s : State} {args : Array Value} (b : Nat) (D : va_G) (ci : Nat → ClassId) (hts : ∀ w ∈ lw_tbl, w.before args s = true) (hgv : (Jvm.Cond.and given_1 narrow_1).before args s = true) : ∃ tx : Nat → Nat, tx 300 = b ∧ Ex (lG D ci tx s.heap.size 0) s s.heap := by
  have hw : ∀ w ∈ WS, w.before args s = true := fun w h => hts w (ws_tbl w h)
  have hr : ∀ w ∈ tables_1, w.before args s = true := fun w h => hts w (List.mem_append_right _ h)
  have hs := flat_of_before _ hgv
  have hA : ∀ a : Nat, a < s.heap.size → ¬ (fun q => s.heap.size ≤ q ∧ ((0 : Nat) = 0 ∨ q < 0)) a := fun a h1 h2 => by have := h2.1; omega
  obtain ⟨adK, adV, hS, hev⟩ := vk_Sof (N := 12) (tm := tmT) (len := lenTx) (byt := bytTx) (A := fun q => s.heap.size ≤ q ∧ ((0 : Nat) = 0 ∨ q < 0)) tx_lt (fun i hi => hs _ (fx1 i hi)) (fun i hi => hs _ (fx2 i hi)) (fun i hi => hs _ (fx3 i hi)) (fun i hi => hs _ (fx4 i hi)) (fun i hi j hj => hs _ (fx5 i hi j hj)) (fun i j hi hj hne => (fx6 i j hi hj hne).imp (hs _) (hs _)) hA
  obtain ⟨fm, hfm⟩ : ∃ fm : Nat, va_Z "jdk/internal/util/Preconditions" "SIOOBE_FORMATTER" "Ljava/util/function/BiFunction;" .null (fun q => s.heap.size ≤ q ∧ ((0 : Nat) = 0 ∨ q < 0)) s s.heap ∨ va_Z "jdk/internal/util/Preconditions" "SIOOBE_FORMATTER" "Ljava/util/function/BiFunction;" (.ref fm) (fun q => s.heap.size ≤ q ∧ ((0 : Nat) = 0 ∨ q < 0)) s s.heap := by
    rcases va_Zqof (A := fun q => s.heap.size ≤ q ∧ ((0 : Nat) = 0 ∨ q < 0)) (hr _ fx11.2.1) (hw _ ini_J3) (hs _ fx9.1) hA with h | ⟨t, h⟩
    · exact ⟨0, Or.inl h⟩
    · exact ⟨t, Or.inr h⟩
  refine ⟨fun k => if k < 12 then adK k else if k < 112 then adV (k - 100) else if k = 200 then fm else b, rfl, ⟨fun i hi => ?_, fun i j hi hj e => ?_⟩, fun q hq => ?_, ?_, fun q hq => ?_, ?_, ?_, ?_⟩
  · have hi : i < 12 := hi
    have e1 : (lG D ci (fun k => if k < 12 then adK k else if k < 112 then adV (k - 100) else if k = 200 then fm else b) s.heap.size 0).2.2.2 i = adK i := if_pos hi
    have e2 : (lG D ci (fun k => if k < 12 then adK k else if k < 112 then adV (k - 100) else if k = 200 then fm else b) s.heap.size 0).2.2.2 (100 + i) = adV i := by
      show (if 100 + i < 12 then adK (100 + i) else if 100 + i < 112 then adV (100 + i - 100) else if 100 + i = 200 then fm else b) = adV i
      rw [if_neg (by omega), if_pos (by omega), Nat.add_sub_cancel_left]
    simp only [e1, e2]
    exact hS.1 i hi
  · have hi : i < 12 := hi
    have hj : j < 12 := hj
    have e : (if i < 12 then adK i else if i < 112 then adV (i - 100) else if i = 200 then fm else b) = (if j < 12 then adK j else if j < 112 then adV (j - 100) else if j = 200 then fm else b) := e
    rw [if_pos hi, if_pos hj] at e
    exact hS.2 i j hi hj e
  · obtain ⟨h1, h2, h3⟩ := fx7 q hq
    have e1 : (lG D ci (fun k => if k < 12 then adK k else if k < 112 then adV (k - 100) else if k = 200 then fm else b) s.heap.size 0).2.2.2 q.2.2.2 = adK q.2.2.2 := if_pos h1
    rw [e1]
    refine vk_R.of (A := args) (hr _ h2) ?_
    rcases h3 with h3 | h3
    · rw [h3]; exact hev _ h1
    · exact va_eqR (hs _ h3) (hev _ h1)
  · exact va_Zof (hr _ fx11.1) (hw _ ini_J0) (va_eqi (hs _ fx8)) hA
  · exact va_Nw.of rfl (hr _ (fx10 q hq))
  · exact va_AO.of (hr _ fx11.2.2.2.2.2.1)
  · exact va_AO.of (hr _ fx11.2.2.2.2.2.2)
  · exact hfm
theorem start_T {s : State} {args : Array Value} (hts : ∀ w ∈ lw_tbl, w.before args s = true) (hgv : (Jvm.Cond.and given_1 narrow_1).before args s = true) : ExT (fun q => s.heap.size ≤ q) s s.heap := by
  have hr : ∀ w ∈ tables_1, w.before args s = true := fun w h => hts w (List.mem_append_right _ h)
  have hs := flat_of_before _ hgv
  have hA : ∀ a : Nat, a < s.heap.size → ¬ (fun q => s.heap.size ≤ q) a := fun a h1 h2 => by have : s.heap.size ≤ a := h2; omega
  exact ⟨fun w hw hg => va_Nw.of (cd_on (tw_cd hw hg)) (hr _ (tw_b w hw)), vx_Zqof (hr _ fx11.2.2.1) (hr _ fx11.2.2.2.2.1) (hs _ fx9.2.1) hA, vx_Zqof (hr _ fx11.2.2.2.1) (hr _ fx11.2.2.2.2.1) (hs _ fx9.2.2) hA⟩
set_option maxRecDepth 100000 in
set_option maxHeartbeats 4000000 in
theorem whole_open (Inv : Sto → Sto → Prop) (h_feed : Sp_feed Inv) (h_text : Sp_text Inv) (h_fault : Sp_fault Inv) (h_where : Sp_where Inv) (h_about : Sp_about Inv) (h_service : Sp_service Inv) (h_rule : Sp_rule Inv) (h_carried : Sp_carried Inv) (h_bought : Sp_bought Inv) (h_profit : Sp_profit Inv) (h_good : Sp_good Inv) (h_most : Sp_most Inv) (h_free : Sp_free Inv) (h_best : Sp_best Inv) (h_bestOf : Sp_bestOf Inv) (h_fair : Sp_fair Inv) (h_fairOf : Sp_fairOf Inv) (h_rows : Sp_rows Inv) (h_freely : Sp_freely Inv) (h_game : Sp_game Inv) (h_path : Sp_path Inv) (h_buyer : Sp_buyer Inv) (h_units : Sp_units Inv) (h_hurt : Sp_hurt Inv) (h_hardest : Sp_hardest Inv) (h_gentle : Sp_gentle Inv) (h_gentleOf : Sp_gentleOf Inv) (h_steady : Sp_steady Inv) (h_steadyOf : Sp_steadyOf Inv) (h_level : Sp_level Inv) (h_trade : Sp_trade Inv) (h_reach : Sp_reach Inv) (h_next : Sp_next Inv) (h_gains : Sp_gains Inv) (h_share : Sp_share Inv) (h_write : Sp_write Inv) (h_octet : Sp_octet Inv) (h_price : Sp_price Inv) (h_lay : Sp_lay Inv) (h_quality : Sp_quality Inv) (h_become : Sp_become Inv) (h_year : Sp_year Inv) (h_undo : Sp_undo Inv) (h_keep : Sp_keep Inv) (h_back : Sp_back Inv) (h_book : Sp_book Inv) (h_letter : Sp_letter Inv) (h_bytes : Sp_bytes Inv) (h_trouble : Sp_trouble Inv) (h_init : Inv σC0 σM0) {p : Program} {e : Env} {s : State} {m : MethodId} {below : List Frame} {meth : Method} {c : Code} (l : Launch) (hflags : l.flags = flags0) {b L : Nat} {xs : Nat → Int32} (hL : L ≤ 3072) (C0 : lw_At p s m meth c b L xs) : W p l e room_1 s m #[Value.ref b] below meth c s.heap [] 0 0 (lw_Z below #[Value.ref b] s) (entryFrame m ([Value.ref b] : List Value).toArray 7) := by
  obtain ⟨hx, hb, hr, hml, hown, hts, hX, hbl, hlocks, hgv⟩ := id C0
  have hst : l.stackTraces = false := by unfold Launch.stackTraces; rw [hflags]; decide
  obtain ⟨D, ci, hK⟩ := start_K hts
  obtain ⟨tx, htb, hE⟩ := start_E b D ci hts hgv
  have hT := start_T hts hgv
  obtain ⟨z2, z4, f2, f4, n2, n4, cC, cM⟩ := ck_ex
  obtain ⟨G0, hG0⟩ : ∃ G : Gv, G = lG D ci tx s.heap.size 0 := ⟨_, rfl⟩
  have ht0 : G0.2.2.1.2 = 0 := by rw [hG0]; rfl
  have h : Cx p s m #[Value.ref b] meth c G0 code 7 RL := by
    rw [hG0]
    exact ⟨hx, hb, hml, hown, fun w hw => hts w (ws_tbl w hw), hK tx _ _, hE, hlocks, Nat.le_refl _⟩
  have hbv : cv G0 (.retAddr 300) = .ref b := by rw [hG0]; show Value.ref (tx 300) = _; rw [htb]
  have hH0 : Hd G0 zE.1 (zE.2.1, true) zE.2.2 s.heap := by
    refine ⟨fun k q hq => ?_, fun a ha => absurd rfl ha, ?_, fun _ => ?_, Or.inl ht0⟩
    · have := (wl_get hq).1
      exact absurd this (Nat.not_lt_zero _)
    · rw [hG0]; exact Nat.le_refl _
    · rw [hG0]; rfl
  have hl := lv_entry ([.ref b]) (n := 7) (Nat.le_of_ble_eq_true rfl)
  rw [lg_entry_eq]
  generalize (lg_sl ([.ref b]) ++ List.replicate (7 - (lg_sl ([.ref b])).length) Slot.unset).toArray = ls at hl ⊢
  have hl : lv_has ls 7 [(0, .ref b)] := hl
  have hlh : lh G0 ls 7 [some (.retAddr 300), none, none, none, none, none, none] := by
    refine ⟨hl.1, hl.2.1, fun q hq => ?_⟩
    have hq : q ∈ [(0, cv G0 (.retAddr 300))] := hq
    rw [hbv] at hq
    exact hl.2.2 q hq
  have key : AW p l e room_1 s m #[Value.ref b] below meth c (lw_Z below #[Value.ref b] s) 0 0 G0 7 0 [some (.retAddr 300), none, none, none, none, none, none] [] zE.1 (zE.2.1, true) zE.2.2 := by
    refine cn_new (z1 := mkc zE (11, 0)) (cells1 := 1) (slots1 := 19) h cf_X11 kl_L_8 ins_X11 ini_X11 dL_law_0 ht0 rfl rfl rfl ⟨Nat.le_of_ble_eq_true rfl, Nat.le_of_ble_eq_true rfl⟩ ?_
    refine st_dup h rfl dL_law_3 ?_
    refine cn_callI (z := mkc zE (11, 0)) (z1 := z2) (a := 0) (vs := []) (st := [.ref 0]) (cells1 := 134) (slots1 := 3130) h (w_X11_init ht0 f2) mi_X11_init mn_X11_init rfl ml_L_19 dL_law_4 rfl ⟨Nat.le_of_ble_eq_true rfl, Nat.le_of_ble_eq_true rfl⟩ (Nat.le_of_ble_eq_true rfl) rfl rfl ⟨Nat.le_of_ble_eq_true rfl, Nat.le_of_ble_eq_true rfl⟩ rfl ?_
    refine st_astore_1 h dL_law_7 ?_
    refine cn_new (z1 := mkc z2 (12, 0)) (cells1 := 135) (slots1 := 3181) h cf_X12 kl_L_20 ins_X12 ini_X12 dL_law_8 ht0 rfl rfl rfl ⟨Nat.le_of_ble_eq_true rfl, Nat.le_of_ble_eq_true rfl⟩ ?_
    rw [n2]
    refine st_dup h rfl dL_law_11 ?_
    refine cn_callI (z := mkc z2 (12, 0)) (z1 := z4) (a := 134) (vs := []) (st := [.ref 134]) (cells1 := 153) (slots1 := 11854) h (w_X12_init ht0 f4) mi_X12_init mn_X12_init rfl ml_L_22 dL_law_12 rfl ⟨Nat.le_of_ble_eq_true rfl, Nat.le_of_ble_eq_true rfl⟩ (Nat.le_of_ble_eq_true rfl) rfl rfl ⟨Nat.le_of_ble_eq_true rfl, Nat.le_of_ble_eq_true rfl⟩ rfl ?_
    refine st_astore_2 h dL_law_15 ?_
    refine st_ic_1 h dL_law_16 ?_
    refine cn_newJ (z1 := mkc z4 (21, 1)) (cells1 := 154) (slots1 := 11855) h dL_law_17 ht0 (by decide) (by decide) (by decide) rfl rfl rfl ⟨Nat.le_of_ble_eq_true rfl, Nat.le_of_ble_eq_true rfl⟩ ?_
    rw [n4]
    refine st_astore_3 h dL_law_19 ?_
    refine st_ic_0 h dL_law_20 ?_
    refine st_istore_4 h dL_law_21 ?_
    intro H locs ls hH hS hl
    refine W.widen (k := 154 + 0) (n := 12000 + 6 * 0) (Nat.le_of_ble_eq_true rfl) (Nat.le_of_ble_eq_true rfl) ?_
    have hZ2 := zi_K_X11_init f2 (ZI_mk zE_ZI)
    have hZ4 := zi_K_X12_init f4 ⟨by show 134 < z2.2.1 + 1; omega, fun a j => by rw [(ZI_mk (kd := (12, 0)) hZ2).1 a j]; simp, fun a j => (ZI_mk (kd := (12, 0)) hZ2).2 a j⟩
    have hZ5 := ZM_mk (kd := (21, 1)) hZ4
    have hz5 : (mkc z4 (21, 1)).2.1 = 154 := by show z4.2.1 + 1 = 154; omega
    have hb0 : G0.2.2.1.1 = s.heap.size := by rw [hG0]; rfl
    have hHC : Hd (lG D ci tx s.heap.size (s.heap.size + 134)) shC νC (ovC σC0) H := by
      refine Hd_tr (G := G0) (off := 0) (n := 134) (N := 154) (z := mkc z4 (21, 1)) (by rw [hG0]; rfl) (by rw [hG0]; rfl) (by rw [hb0]; rfl) hz5 (by decide) hH (fun a ha => shC_top ha) shC_kd (fun a j ha => ?_) (fun a j ha => ?_) cC
      · rw [hZ5.2.1]
        rw [if_neg (fun q => by have := q.1; omega)]
        rfl
      · exact hZ5.2.2 _ _
    have hHM : Hd (lG D ci tx (s.heap.size + 134) (s.heap.size + 153)) shM νM (ovM σM0) H := by
      refine Hd_tr (G := G0) (off := 134) (n := 19) (N := 154) (z := mkc z4 (21, 1)) (by rw [hG0]; rfl) (by rw [hG0]; rfl) (by rw [hb0]; rfl) hz5 (by decide) hH (fun a ha => shM_top ha) shM_kd (fun a j ha => ?_) (fun a j ha => ?_) cM
      · rw [hZ5.2.1]
        show _ = if a = 0 ∧ ((false || j == 2) || j == 38) = true then (-1 : Int32) else 0
        have e : (134 + a = 134) = (a = 0) := by simp
        simp only [e]
      · exact hZ5.2.2 _ _
    have hO : va_P (lG D ci tx s.heap.size (s.heap.size + 134)).1 vwCl (oW (lG D ci tx s.heap.size (s.heap.size + 134)) (lG D ci tx (s.heap.size + 134) (s.heap.size + 153)).2.2.1.2 (fun _ => 0)) H := by
      intro k q hq
      have a1 : k < 1 := (List.getElem?_eq_some_iff.mp hq).1
      rw [show k = 0 by omega] at hq
      cases hq
      have h1 := hH.1 153 _ (wl_at (show 153 < (mkc z4 (21, 1)).2.1 by omega))
      have hsh : (mkc z4 (21, 1)).1 153 = (21, 1) := by show (if 153 = z4.2.1 then (21, 1) else z4.1 153) = _; rw [n4]; rfl
      rw [ce_at hsh, cer_j] at h1
      have hj : (mkc z4 (21, 1)).2.2.2.1 153 = fun _ => 0 := funext (fun j => hZ5.2.2 153 j)
      rw [hj, hb0, hG0] at h1
      exact h1
    have hS' : va_S (fun q => s.heap.size ≤ q) s.heap H locs := ⟨hS.1, fun q h1 h2 => hS.2.1 q h1 (fun h => h2 (by have := h.1; rw [hb0] at this; exact this)), fun q hq => by have := (hS.2.2 q hq).1; rw [hb0] at this; exact this⟩
    have hCC : LC p l s m meth c b L xs (lG D ci tx s.heap.size (s.heap.size + 134)) (lG D ci tx (s.heap.size + 134) (s.heap.size + 153)) := ⟨C0, hL, hst, ⟨D, ci, tx, rfl, rfl, hK tx _ _, hE⟩, hT⟩
    have hls : lv_has ls 7 (lwL b s.heap.size 0) := by
      refine ⟨hl.1, hl.2.1, fun q hq => ?_⟩
      have h3 := hl.2.2
      simp only [lvp] at h3
      rw [hbv] at h3
      have c1 : cv G0 (.ref 0) = .ref s.heap.size := by show Value.ref (G0.2.2.1.1 + 0) = _; rw [hb0]; rfl
      have c2 : cv G0 (.ref 134) = .ref (s.heap.size + 134) := by show Value.ref (G0.2.2.1.1 + 134) = _; rw [hb0]
      have c3 : cv G0 (.ref 153) = .ref (s.heap.size + 153) := by show Value.ref (G0.2.2.1.1 + 153) = _; rw [hb0]
      rw [c1, c2, c3] at h3
      exact h3 q hq
    exact law_loop Inv h_feed h_text h_fault h_where h_about h_service h_rule h_carried h_bought h_profit h_good h_most h_free h_best h_bestOf h_fair h_fairOf h_rows h_freely h_game h_path h_buyer h_units h_hurt h_hardest h_gentle h_gentleOf h_steady h_steadyOf h_level h_trade h_reach h_next h_gains h_share h_write h_octet h_price h_lay h_quality h_become h_year h_undo h_keep h_back h_book h_letter h_bytes h_trouble hCC (L + 1) 0 (by omega) (by omega) 0 nI_0.symm σC0 σM0 (fun _ => 0) H locs ls h_init ⟨hHC, hHM, hO⟩ hS' hls
  exact key s.heap [] ls hH0 va_S.rf hlh
