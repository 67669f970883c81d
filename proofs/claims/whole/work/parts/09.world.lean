def shCl : List (Nat × Nat) := [(11, 0), (20, 500), (6, 0), (10, 0), (20, 4), (20, 4), (20, 4), (20, 4), (0, 0), (20, 396), (5, 0), (24, 10), (10, 0), (20, 4), (20, 4), (20, 4), (20, 4), (10, 0), (20, 4), (20, 4), (20, 4), (20, 4), (10, 0), (20, 4), (20, 4), (20, 4), (20, 4), (10, 0), (20, 4), (20, 4), (20, 4), (20, 4), (10, 0), (20, 4), (20, 4), (20, 4), (20, 4), (10, 0), (20, 4), (20, 4), (20, 4), (20, 4), (10, 0), (20, 4), (20, 4), (20, 4), (20, 4), (10, 0), (20, 4), (20, 4), (20, 4), (20, 4), (10, 0), (20, 4), (20, 4), (20, 4), (20, 4), (10, 0), (20, 4), (20, 4), (20, 4), (20, 4), (23, 2), (8, 0), (20, 20), (20, 5), (20, 4), (20, 4), (20, 4), (20, 84), (20, 84), (20, 84), (20, 4), (20, 4), (20, 5), (2, 0), (7, 0), (20, 4), (7, 0), (20, 4), (7, 0), (20, 4), (7, 0), (20, 4), (4, 0), (7, 0), (20, 4), (10, 0), (20, 4), (20, 4), (20, 4), (20, 4), (10, 0), (20, 4), (20, 4), (20, 4), (20, 4), (20, 36), (20, 4), (1, 0), (20, 4), (20, 11), (9, 0), (21, 8), (20, 24), (20, 16), (20, 4), (20, 84), (20, 84), (20, 84), (9, 0), (21, 8), (20, 24), (20, 16), (20, 4), (20, 84), (20, 84), (20, 84), (3, 0), (10, 0), (20, 4), (20, 4), (20, 4), (20, 4), (0, 0), (20, 396), (3, 0), (10, 0), (20, 4), (20, 4), (20, 4), (20, 4), (0, 0), (20, 396)]
def shC : Shp := fun a => shCl.getD a (99, 0)
def νC : Cnt := (134, false)
def rfC (a k : Nat) : Option Nat :=
  if (shC a).1 = 0 then (if k = 0 then some (a + 1) else none) else
  if (shC a).1 = 1 then (if k = 0 then some (100) else none) else
  if (shC a).1 = 2 then (if k = 0 then some (63) else if k = 1 then some (76) else if k = 2 then some (78) else if k = 3 then some (80) else if k = 4 then some (82) else none) else
  if (shC a).1 = 3 then (if k = 1 then some (a + 1) else if k = 2 then some (a + 6) else none) else
  if (shC a).1 = 4 then (if k = 0 then some (63) else if k = 1 then some (85) else if k = 2 then some (87) else if k = 3 then some (92) else if k = 4 then some (97) else if k = 5 then some (98) else none) else
  if (shC a).1 = 5 then (if k = 0 then some (11) else none) else
  if (shC a).1 = 7 then (if k = 3 then some (a + 1) else none) else
  if (shC a).1 = 8 then (if k = 2 then some (64) else if k = 3 then some (65) else if k = 4 then some (66) else if k = 5 then some (67) else if k = 6 then some (68) else if k = 7 then some (69) else if k = 8 then some (70) else if k = 9 then some (71) else if k = 10 then some (72) else if k = 11 then some (73) else if k = 12 then some (74) else none) else
  if (shC a).1 = 9 then (if k = 2 then some (a + 1) else if k = 3 then some (a + 2) else if k = 4 then some (a + 3) else if k = 5 then some (a + 4) else if k = 6 then some (a + 5) else if k = 7 then some (a + 6) else if k = 8 then some (a + 7) else none) else
  if (shC a).1 = 10 then (if k = 2 then some (a + 1) else if k = 3 then some (a + 2) else if k = 4 then some (a + 3) else if k = 5 then some (a + 4) else none) else
  if (shC a).1 = 11 then (if k = 0 then some (1) else if k = 1 then some (2) else if k = 2 then some (3) else if k = 3 then some (8) else if k = 4 then some (10) else if k = 5 then some (62) else if k = 6 then some (63) else if k = 7 then some (75) else if k = 8 then some (84) else if k = 9 then some (99) else if k = 10 then some (101) else none) else
  if (shC a).1 = 24 then some (12 + 5 * k) else
  if (shC a).1 = 23 then some (118 + 8 * k) else
  none
/-- the whole store: what lasts laid over what may change -/
def ovC (σ : Sto) : Sto := (σ.1, σ.2.1, fun a k => (rfC a k).or (σ.2.2 a k))
theorem shC_lt {a n : Nat} (h : (shC a).1 = n) (hn : ¬ 99 = n) : a < 134 := by
  rcases Nat.lt_or_ge a 134 with q | q
  · exact q
  · refine absurd ?_ hn
    have e : shC a = (99, 0) := by
      show shCl.getD a (99, 0) = (99, 0)
      rw [List.getD_eq_getElem?_getD, List.getElem?_eq_none (show shCl.length ≤ a from q)]
      rfl
    rw [← h, e]
theorem shC_e {a n : Nat} (h : (shC a).1 = n) : shC a = (n, (shC a).2) := Prod.ext h rfl
theorem kC_0 : shC 0 = (11, 0) := rfl
theorem kC_1 : shC 1 = (20, 500) := rfl
theorem kC_2 : shC 2 = (6, 0) := rfl
theorem kC_3 : shC 3 = (10, 0) := rfl
theorem kC_4 : shC 4 = (20, 4) := rfl
theorem kC_5 : shC 5 = (20, 4) := rfl
theorem kC_6 : shC 6 = (20, 4) := rfl
theorem kC_7 : shC 7 = (20, 4) := rfl
theorem kC_8 : shC 8 = (0, 0) := rfl
theorem kC_9 : shC 9 = (20, 396) := rfl
theorem kC_10 : shC 10 = (5, 0) := rfl
theorem kC_11 : shC 11 = (24, 10) := rfl
theorem kC_12 : shC 12 = (10, 0) := rfl
theorem kC_13 : shC 13 = (20, 4) := rfl
theorem kC_14 : shC 14 = (20, 4) := rfl
theorem kC_15 : shC 15 = (20, 4) := rfl
theorem kC_16 : shC 16 = (20, 4) := rfl
theorem kC_17 : shC 17 = (10, 0) := rfl
theorem kC_18 : shC 18 = (20, 4) := rfl
theorem kC_19 : shC 19 = (20, 4) := rfl
theorem kC_20 : shC 20 = (20, 4) := rfl
theorem kC_21 : shC 21 = (20, 4) := rfl
theorem kC_22 : shC 22 = (10, 0) := rfl
theorem kC_23 : shC 23 = (20, 4) := rfl
theorem kC_24 : shC 24 = (20, 4) := rfl
theorem kC_25 : shC 25 = (20, 4) := rfl
theorem kC_26 : shC 26 = (20, 4) := rfl
theorem kC_27 : shC 27 = (10, 0) := rfl
theorem kC_28 : shC 28 = (20, 4) := rfl
theorem kC_29 : shC 29 = (20, 4) := rfl
theorem kC_30 : shC 30 = (20, 4) := rfl
theorem kC_31 : shC 31 = (20, 4) := rfl
theorem kC_32 : shC 32 = (10, 0) := rfl
theorem kC_33 : shC 33 = (20, 4) := rfl
theorem kC_34 : shC 34 = (20, 4) := rfl
theorem kC_35 : shC 35 = (20, 4) := rfl
theorem kC_36 : shC 36 = (20, 4) := rfl
theorem kC_37 : shC 37 = (10, 0) := rfl
theorem kC_38 : shC 38 = (20, 4) := rfl
theorem kC_39 : shC 39 = (20, 4) := rfl
theorem kC_40 : shC 40 = (20, 4) := rfl
theorem kC_41 : shC 41 = (20, 4) := rfl
theorem kC_42 : shC 42 = (10, 0) := rfl
theorem kC_43 : shC 43 = (20, 4) := rfl
theorem kC_44 : shC 44 = (20, 4) := rfl
theorem kC_45 : shC 45 = (20, 4) := rfl
theorem kC_46 : shC 46 = (20, 4) := rfl
theorem kC_47 : shC 47 = (10, 0) := rfl
theorem kC_48 : shC 48 = (20, 4) := rfl
theorem kC_49 : shC 49 = (20, 4) := rfl
theorem kC_50 : shC 50 = (20, 4) := rfl
theorem kC_51 : shC 51 = (20, 4) := rfl
theorem kC_52 : shC 52 = (10, 0) := rfl
theorem kC_53 : shC 53 = (20, 4) := rfl
theorem kC_54 : shC 54 = (20, 4) := rfl
theorem kC_55 : shC 55 = (20, 4) := rfl
theorem kC_56 : shC 56 = (20, 4) := rfl
theorem kC_57 : shC 57 = (10, 0) := rfl
theorem kC_58 : shC 58 = (20, 4) := rfl
theorem kC_59 : shC 59 = (20, 4) := rfl
theorem kC_60 : shC 60 = (20, 4) := rfl
theorem kC_61 : shC 61 = (20, 4) := rfl
theorem kC_62 : shC 62 = (23, 2) := rfl
theorem kC_63 : shC 63 = (8, 0) := rfl
theorem kC_64 : shC 64 = (20, 20) := rfl
theorem kC_65 : shC 65 = (20, 5) := rfl
theorem kC_66 : shC 66 = (20, 4) := rfl
theorem kC_67 : shC 67 = (20, 4) := rfl
theorem kC_68 : shC 68 = (20, 4) := rfl
theorem kC_69 : shC 69 = (20, 84) := rfl
theorem kC_70 : shC 70 = (20, 84) := rfl
theorem kC_71 : shC 71 = (20, 84) := rfl
theorem kC_72 : shC 72 = (20, 4) := rfl
theorem kC_73 : shC 73 = (20, 4) := rfl
theorem kC_74 : shC 74 = (20, 5) := rfl
theorem kC_75 : shC 75 = (2, 0) := rfl
theorem kC_76 : shC 76 = (7, 0) := rfl
theorem kC_77 : shC 77 = (20, 4) := rfl
theorem kC_78 : shC 78 = (7, 0) := rfl
theorem kC_79 : shC 79 = (20, 4) := rfl
theorem kC_80 : shC 80 = (7, 0) := rfl
theorem kC_81 : shC 81 = (20, 4) := rfl
theorem kC_82 : shC 82 = (7, 0) := rfl
theorem kC_83 : shC 83 = (20, 4) := rfl
theorem kC_84 : shC 84 = (4, 0) := rfl
theorem kC_85 : shC 85 = (7, 0) := rfl
theorem kC_86 : shC 86 = (20, 4) := rfl
theorem kC_87 : shC 87 = (10, 0) := rfl
theorem kC_88 : shC 88 = (20, 4) := rfl
theorem kC_89 : shC 89 = (20, 4) := rfl
theorem kC_90 : shC 90 = (20, 4) := rfl
theorem kC_91 : shC 91 = (20, 4) := rfl
theorem kC_92 : shC 92 = (10, 0) := rfl
theorem kC_93 : shC 93 = (20, 4) := rfl
theorem kC_94 : shC 94 = (20, 4) := rfl
theorem kC_95 : shC 95 = (20, 4) := rfl
theorem kC_96 : shC 96 = (20, 4) := rfl
theorem kC_97 : shC 97 = (20, 36) := rfl
theorem kC_98 : shC 98 = (20, 4) := rfl
theorem kC_99 : shC 99 = (1, 0) := rfl
theorem kC_100 : shC 100 = (20, 4) := rfl
theorem kC_101 : shC 101 = (20, 11) := rfl
theorem kC_102 : shC 102 = (9, 0) := rfl
theorem kC_103 : shC 103 = (21, 8) := rfl
theorem kC_104 : shC 104 = (20, 24) := rfl
theorem kC_105 : shC 105 = (20, 16) := rfl
theorem kC_106 : shC 106 = (20, 4) := rfl
theorem kC_107 : shC 107 = (20, 84) := rfl
theorem kC_108 : shC 108 = (20, 84) := rfl
theorem kC_109 : shC 109 = (20, 84) := rfl
theorem kC_110 : shC 110 = (9, 0) := rfl
theorem kC_111 : shC 111 = (21, 8) := rfl
theorem kC_112 : shC 112 = (20, 24) := rfl
theorem kC_113 : shC 113 = (20, 16) := rfl
theorem kC_114 : shC 114 = (20, 4) := rfl
theorem kC_115 : shC 115 = (20, 84) := rfl
theorem kC_116 : shC 116 = (20, 84) := rfl
theorem kC_117 : shC 117 = (20, 84) := rfl
theorem kC_118 : shC 118 = (3, 0) := rfl
theorem kC_119 : shC 119 = (10, 0) := rfl
theorem kC_120 : shC 120 = (20, 4) := rfl
theorem kC_121 : shC 121 = (20, 4) := rfl
theorem kC_122 : shC 122 = (20, 4) := rfl
theorem kC_123 : shC 123 = (20, 4) := rfl
theorem kC_124 : shC 124 = (0, 0) := rfl
theorem kC_125 : shC 125 = (20, 396) := rfl
theorem kC_126 : shC 126 = (3, 0) := rfl
theorem kC_127 : shC 127 = (10, 0) := rfl
theorem kC_128 : shC 128 = (20, 4) := rfl
theorem kC_129 : shC 129 = (20, 4) := rfl
theorem kC_130 : shC 130 = (20, 4) := rfl
theorem kC_131 : shC 131 = (20, 4) := rfl
theorem kC_132 : shC 132 = (0, 0) := rfl
theorem kC_133 : shC 133 = (20, 396) := rfl
def shMl : List (Nat × Nat) := [(12, 0), (20, 500), (20, 534), (20, 534), (20, 534), (20, 5340), (20, 1068), (21, 4), (21, 8), (22, 2), (20, 16), (20, 16), (20, 84), (20, 5), (20, 4), (20, 4), (20, 4), (20, 4), (20, 12)]
def shM : Shp := fun a => shMl.getD a (99, 0)
def νM : Cnt := (19, false)
def rfM (a k : Nat) : Option Nat :=
  if (shM a).1 = 12 then (if k = 3 then some (1) else if k = 14 then some (2) else if k = 15 then some (3) else if k = 16 then some (4) else if k = 17 then some (5) else if k = 18 then some (6) else if k = 19 then some (7) else if k = 20 then some (8) else if k = 21 then some (9) else if k = 26 then some (10) else if k = 27 then some (11) else if k = 31 then some (12) else if k = 32 then some (13) else if k = 33 then some (14) else if k = 34 then some (15) else if k = 35 then some (16) else if k = 40 then some (17) else if k = 45 then some (18) else none) else
  none
/-- the whole store: what lasts laid over what may change -/
def ovM (σ : Sto) : Sto := (σ.1, σ.2.1, fun a k => (rfM a k).or (σ.2.2 a k))
theorem shM_lt {a n : Nat} (h : (shM a).1 = n) (hn : ¬ 99 = n) : a < 19 := by
  rcases Nat.lt_or_ge a 19 with q | q
  · exact q
  · refine absurd ?_ hn
    have e : shM a = (99, 0) := by
      show shMl.getD a (99, 0) = (99, 0)
      rw [List.getD_eq_getElem?_getD, List.getElem?_eq_none (show shMl.length ≤ a from q)]
      rfl
    rw [← h, e]
theorem shM_e {a n : Nat} (h : (shM a).1 = n) : shM a = (n, (shM a).2) := Prod.ext h rfl
theorem kM_0 : shM 0 = (12, 0) := rfl
theorem kM_1 : shM 1 = (20, 500) := rfl
theorem kM_2 : shM 2 = (20, 534) := rfl
theorem kM_3 : shM 3 = (20, 534) := rfl
theorem kM_4 : shM 4 = (20, 534) := rfl
theorem kM_5 : shM 5 = (20, 5340) := rfl
theorem kM_6 : shM 6 = (20, 1068) := rfl
theorem kM_7 : shM 7 = (21, 4) := rfl
theorem kM_8 : shM 8 = (21, 8) := rfl
theorem kM_9 : shM 9 = (22, 2) := rfl
theorem kM_10 : shM 10 = (20, 16) := rfl
theorem kM_11 : shM 11 = (20, 16) := rfl
theorem kM_12 : shM 12 = (20, 84) := rfl
theorem kM_13 : shM 13 = (20, 5) := rfl
theorem kM_14 : shM 14 = (20, 4) := rfl
theorem kM_15 : shM 15 = (20, 4) := rfl
theorem kM_16 : shM 16 = (20, 4) := rfl
theorem kM_17 : shM 17 = (20, 4) := rfl
theorem kM_18 : shM 18 = (20, 12) := rfl
theorem sk_0_00 : ∀ a, a < 134 → (shC a).1 = 0 → shC (a + 1) = (20, 396) := by decide +kernel
theorem sk_0_0 {a : Nat} (h : (shC a).1 = 0) : shC (a + 1) = (20, 396) := sk_0_00 a (shC_lt h (by decide)) h
theorem rf_0_0 {σ : Sto} {a : Nat} (h : (shC a).1 = 0) : (ovC σ).2.2 a 0 = some (a + 1) := by simp [ovC, rfC, h]
theorem rf_1_0 {σ : Sto} {a : Nat} (h : (shC a).1 = 1) : (ovC σ).2.2 a 0 = some (100) := by simp [ovC, rfC, h]
theorem sk_10_20 : ∀ a, a < 134 → (shC a).1 = 10 → shC (a + 1) = (20, 4) := by decide +kernel
theorem sk_10_2 {a : Nat} (h : (shC a).1 = 10) : shC (a + 1) = (20, 4) := sk_10_20 a (shC_lt h (by decide)) h
theorem rf_10_2 {σ : Sto} {a : Nat} (h : (shC a).1 = 10) : (ovC σ).2.2 a 2 = some (a + 1) := by simp [ovC, rfC, h]
theorem sk_10_30 : ∀ a, a < 134 → (shC a).1 = 10 → shC (a + 2) = (20, 4) := by decide +kernel
theorem sk_10_3 {a : Nat} (h : (shC a).1 = 10) : shC (a + 2) = (20, 4) := sk_10_30 a (shC_lt h (by decide)) h
theorem rf_10_3 {σ : Sto} {a : Nat} (h : (shC a).1 = 10) : (ovC σ).2.2 a 3 = some (a + 2) := by simp [ovC, rfC, h]
theorem sk_10_40 : ∀ a, a < 134 → (shC a).1 = 10 → shC (a + 3) = (20, 4) := by decide +kernel
theorem sk_10_4 {a : Nat} (h : (shC a).1 = 10) : shC (a + 3) = (20, 4) := sk_10_40 a (shC_lt h (by decide)) h
theorem rf_10_4 {σ : Sto} {a : Nat} (h : (shC a).1 = 10) : (ovC σ).2.2 a 4 = some (a + 3) := by simp [ovC, rfC, h]
theorem sk_10_50 : ∀ a, a < 134 → (shC a).1 = 10 → shC (a + 4) = (20, 4) := by decide +kernel
theorem sk_10_5 {a : Nat} (h : (shC a).1 = 10) : shC (a + 4) = (20, 4) := sk_10_50 a (shC_lt h (by decide)) h
theorem rf_10_5 {σ : Sto} {a : Nat} (h : (shC a).1 = 10) : (ovC σ).2.2 a 5 = some (a + 4) := by simp [ovC, rfC, h]
theorem rf_11_0 {σ : Sto} {a : Nat} (h : (shC a).1 = 11) : (ovC σ).2.2 a 0 = some (1) := by simp [ovC, rfC, h]
theorem rf_11_1 {σ : Sto} {a : Nat} (h : (shC a).1 = 11) : (ovC σ).2.2 a 1 = some (2) := by simp [ovC, rfC, h]
theorem rf_11_2 {σ : Sto} {a : Nat} (h : (shC a).1 = 11) : (ovC σ).2.2 a 2 = some (3) := by simp [ovC, rfC, h]
theorem rf_11_3 {σ : Sto} {a : Nat} (h : (shC a).1 = 11) : (ovC σ).2.2 a 3 = some (8) := by simp [ovC, rfC, h]
theorem rf_11_4 {σ : Sto} {a : Nat} (h : (shC a).1 = 11) : (ovC σ).2.2 a 4 = some (10) := by simp [ovC, rfC, h]
theorem rf_11_5 {σ : Sto} {a : Nat} (h : (shC a).1 = 11) : (ovC σ).2.2 a 5 = some (62) := by simp [ovC, rfC, h]
theorem rf_11_6 {σ : Sto} {a : Nat} (h : (shC a).1 = 11) : (ovC σ).2.2 a 6 = some (63) := by simp [ovC, rfC, h]
theorem rf_11_7 {σ : Sto} {a : Nat} (h : (shC a).1 = 11) : (ovC σ).2.2 a 7 = some (75) := by simp [ovC, rfC, h]
theorem rf_11_8 {σ : Sto} {a : Nat} (h : (shC a).1 = 11) : (ovC σ).2.2 a 8 = some (84) := by simp [ovC, rfC, h]
theorem rf_11_9 {σ : Sto} {a : Nat} (h : (shC a).1 = 11) : (ovC σ).2.2 a 9 = some (99) := by simp [ovC, rfC, h]
theorem rf_11_10 {σ : Sto} {a : Nat} (h : (shC a).1 = 11) : (ovC σ).2.2 a 10 = some (101) := by simp [ovC, rfC, h]
theorem rf_12_3 {σ : Sto} {a : Nat} (h : (shM a).1 = 12) : (ovM σ).2.2 a 3 = some (1) := by simp [ovM, rfM, h]
theorem rf_12_14 {σ : Sto} {a : Nat} (h : (shM a).1 = 12) : (ovM σ).2.2 a 14 = some (2) := by simp [ovM, rfM, h]
theorem rf_12_15 {σ : Sto} {a : Nat} (h : (shM a).1 = 12) : (ovM σ).2.2 a 15 = some (3) := by simp [ovM, rfM, h]
theorem rf_12_16 {σ : Sto} {a : Nat} (h : (shM a).1 = 12) : (ovM σ).2.2 a 16 = some (4) := by simp [ovM, rfM, h]
theorem rf_12_17 {σ : Sto} {a : Nat} (h : (shM a).1 = 12) : (ovM σ).2.2 a 17 = some (5) := by simp [ovM, rfM, h]
theorem rf_12_18 {σ : Sto} {a : Nat} (h : (shM a).1 = 12) : (ovM σ).2.2 a 18 = some (6) := by simp [ovM, rfM, h]
theorem rf_12_19 {σ : Sto} {a : Nat} (h : (shM a).1 = 12) : (ovM σ).2.2 a 19 = some (7) := by simp [ovM, rfM, h]
theorem rf_12_20 {σ : Sto} {a : Nat} (h : (shM a).1 = 12) : (ovM σ).2.2 a 20 = some (8) := by simp [ovM, rfM, h]
theorem rf_12_21 {σ : Sto} {a : Nat} (h : (shM a).1 = 12) : (ovM σ).2.2 a 21 = some (9) := by simp [ovM, rfM, h]
theorem rf_12_26 {σ : Sto} {a : Nat} (h : (shM a).1 = 12) : (ovM σ).2.2 a 26 = some (10) := by simp [ovM, rfM, h]
theorem rf_12_27 {σ : Sto} {a : Nat} (h : (shM a).1 = 12) : (ovM σ).2.2 a 27 = some (11) := by simp [ovM, rfM, h]
theorem rf_12_31 {σ : Sto} {a : Nat} (h : (shM a).1 = 12) : (ovM σ).2.2 a 31 = some (12) := by simp [ovM, rfM, h]
theorem rf_12_32 {σ : Sto} {a : Nat} (h : (shM a).1 = 12) : (ovM σ).2.2 a 32 = some (13) := by simp [ovM, rfM, h]
theorem rf_12_33 {σ : Sto} {a : Nat} (h : (shM a).1 = 12) : (ovM σ).2.2 a 33 = some (14) := by simp [ovM, rfM, h]
theorem rf_12_34 {σ : Sto} {a : Nat} (h : (shM a).1 = 12) : (ovM σ).2.2 a 34 = some (15) := by simp [ovM, rfM, h]
theorem rf_12_35 {σ : Sto} {a : Nat} (h : (shM a).1 = 12) : (ovM σ).2.2 a 35 = some (16) := by simp [ovM, rfM, h]
theorem rf_12_40 {σ : Sto} {a : Nat} (h : (shM a).1 = 12) : (ovM σ).2.2 a 40 = some (17) := by simp [ovM, rfM, h]
theorem rf_12_45 {σ : Sto} {a : Nat} (h : (shM a).1 = 12) : (ovM σ).2.2 a 45 = some (18) := by simp [ovM, rfM, h]
theorem rf_2_0 {σ : Sto} {a : Nat} (h : (shC a).1 = 2) : (ovC σ).2.2 a 0 = some (63) := by simp [ovC, rfC, h]
theorem rf_2_1 {σ : Sto} {a : Nat} (h : (shC a).1 = 2) : (ovC σ).2.2 a 1 = some (76) := by simp [ovC, rfC, h]
theorem rf_2_2 {σ : Sto} {a : Nat} (h : (shC a).1 = 2) : (ovC σ).2.2 a 2 = some (78) := by simp [ovC, rfC, h]
theorem rf_2_3 {σ : Sto} {a : Nat} (h : (shC a).1 = 2) : (ovC σ).2.2 a 3 = some (80) := by simp [ovC, rfC, h]
theorem rf_2_4 {σ : Sto} {a : Nat} (h : (shC a).1 = 2) : (ovC σ).2.2 a 4 = some (82) := by simp [ovC, rfC, h]
theorem sk_3_10 : ∀ a, a < 134 → (shC a).1 = 3 → shC (a + 1) = (10, 0) := by decide +kernel
theorem sk_3_1 {a : Nat} (h : (shC a).1 = 3) : shC (a + 1) = (10, 0) := sk_3_10 a (shC_lt h (by decide)) h
theorem rf_3_1 {σ : Sto} {a : Nat} (h : (shC a).1 = 3) : (ovC σ).2.2 a 1 = some (a + 1) := by simp [ovC, rfC, h]
theorem sk_3_20 : ∀ a, a < 134 → (shC a).1 = 3 → shC (a + 6) = (0, 0) := by decide +kernel
theorem sk_3_2 {a : Nat} (h : (shC a).1 = 3) : shC (a + 6) = (0, 0) := sk_3_20 a (shC_lt h (by decide)) h
theorem rf_3_2 {σ : Sto} {a : Nat} (h : (shC a).1 = 3) : (ovC σ).2.2 a 2 = some (a + 6) := by simp [ovC, rfC, h]
theorem rf_4_0 {σ : Sto} {a : Nat} (h : (shC a).1 = 4) : (ovC σ).2.2 a 0 = some (63) := by simp [ovC, rfC, h]
theorem rf_4_1 {σ : Sto} {a : Nat} (h : (shC a).1 = 4) : (ovC σ).2.2 a 1 = some (85) := by simp [ovC, rfC, h]
theorem rf_4_2 {σ : Sto} {a : Nat} (h : (shC a).1 = 4) : (ovC σ).2.2 a 2 = some (87) := by simp [ovC, rfC, h]
theorem rf_4_3 {σ : Sto} {a : Nat} (h : (shC a).1 = 4) : (ovC σ).2.2 a 3 = some (92) := by simp [ovC, rfC, h]
theorem rf_4_4 {σ : Sto} {a : Nat} (h : (shC a).1 = 4) : (ovC σ).2.2 a 4 = some (97) := by simp [ovC, rfC, h]
theorem rf_4_5 {σ : Sto} {a : Nat} (h : (shC a).1 = 4) : (ovC σ).2.2 a 5 = some (98) := by simp [ovC, rfC, h]
theorem rf_5_0 {σ : Sto} {a : Nat} (h : (shC a).1 = 5) : (ovC σ).2.2 a 0 = some (11) := by simp [ovC, rfC, h]
theorem sk_7_30 : ∀ a, a < 134 → (shC a).1 = 7 → shC (a + 1) = (20, 4) := by decide +kernel
theorem sk_7_3 {a : Nat} (h : (shC a).1 = 7) : shC (a + 1) = (20, 4) := sk_7_30 a (shC_lt h (by decide)) h
theorem rf_7_3 {σ : Sto} {a : Nat} (h : (shC a).1 = 7) : (ovC σ).2.2 a 3 = some (a + 1) := by simp [ovC, rfC, h]
theorem rf_8_2 {σ : Sto} {a : Nat} (h : (shC a).1 = 8) : (ovC σ).2.2 a 2 = some (64) := by simp [ovC, rfC, h]
theorem rf_8_3 {σ : Sto} {a : Nat} (h : (shC a).1 = 8) : (ovC σ).2.2 a 3 = some (65) := by simp [ovC, rfC, h]
theorem rf_8_4 {σ : Sto} {a : Nat} (h : (shC a).1 = 8) : (ovC σ).2.2 a 4 = some (66) := by simp [ovC, rfC, h]
theorem rf_8_5 {σ : Sto} {a : Nat} (h : (shC a).1 = 8) : (ovC σ).2.2 a 5 = some (67) := by simp [ovC, rfC, h]
theorem rf_8_6 {σ : Sto} {a : Nat} (h : (shC a).1 = 8) : (ovC σ).2.2 a 6 = some (68) := by simp [ovC, rfC, h]
theorem rf_8_7 {σ : Sto} {a : Nat} (h : (shC a).1 = 8) : (ovC σ).2.2 a 7 = some (69) := by simp [ovC, rfC, h]
theorem rf_8_8 {σ : Sto} {a : Nat} (h : (shC a).1 = 8) : (ovC σ).2.2 a 8 = some (70) := by simp [ovC, rfC, h]
theorem rf_8_9 {σ : Sto} {a : Nat} (h : (shC a).1 = 8) : (ovC σ).2.2 a 9 = some (71) := by simp [ovC, rfC, h]
theorem rf_8_10 {σ : Sto} {a : Nat} (h : (shC a).1 = 8) : (ovC σ).2.2 a 10 = some (72) := by simp [ovC, rfC, h]
theorem rf_8_11 {σ : Sto} {a : Nat} (h : (shC a).1 = 8) : (ovC σ).2.2 a 11 = some (73) := by simp [ovC, rfC, h]
theorem rf_8_12 {σ : Sto} {a : Nat} (h : (shC a).1 = 8) : (ovC σ).2.2 a 12 = some (74) := by simp [ovC, rfC, h]
theorem sk_9_20 : ∀ a, a < 134 → (shC a).1 = 9 → shC (a + 1) = (21, 8) := by decide +kernel
theorem sk_9_2 {a : Nat} (h : (shC a).1 = 9) : shC (a + 1) = (21, 8) := sk_9_20 a (shC_lt h (by decide)) h
theorem rf_9_2 {σ : Sto} {a : Nat} (h : (shC a).1 = 9) : (ovC σ).2.2 a 2 = some (a + 1) := by simp [ovC, rfC, h]
theorem sk_9_30 : ∀ a, a < 134 → (shC a).1 = 9 → shC (a + 2) = (20, 24) := by decide +kernel
theorem sk_9_3 {a : Nat} (h : (shC a).1 = 9) : shC (a + 2) = (20, 24) := sk_9_30 a (shC_lt h (by decide)) h
theorem rf_9_3 {σ : Sto} {a : Nat} (h : (shC a).1 = 9) : (ovC σ).2.2 a 3 = some (a + 2) := by simp [ovC, rfC, h]
theorem sk_9_40 : ∀ a, a < 134 → (shC a).1 = 9 → shC (a + 3) = (20, 16) := by decide +kernel
theorem sk_9_4 {a : Nat} (h : (shC a).1 = 9) : shC (a + 3) = (20, 16) := sk_9_40 a (shC_lt h (by decide)) h
theorem rf_9_4 {σ : Sto} {a : Nat} (h : (shC a).1 = 9) : (ovC σ).2.2 a 4 = some (a + 3) := by simp [ovC, rfC, h]
theorem sk_9_50 : ∀ a, a < 134 → (shC a).1 = 9 → shC (a + 4) = (20, 4) := by decide +kernel
theorem sk_9_5 {a : Nat} (h : (shC a).1 = 9) : shC (a + 4) = (20, 4) := sk_9_50 a (shC_lt h (by decide)) h
theorem rf_9_5 {σ : Sto} {a : Nat} (h : (shC a).1 = 9) : (ovC σ).2.2 a 5 = some (a + 4) := by simp [ovC, rfC, h]
theorem sk_9_60 : ∀ a, a < 134 → (shC a).1 = 9 → shC (a + 5) = (20, 84) := by decide +kernel
theorem sk_9_6 {a : Nat} (h : (shC a).1 = 9) : shC (a + 5) = (20, 84) := sk_9_60 a (shC_lt h (by decide)) h
theorem rf_9_6 {σ : Sto} {a : Nat} (h : (shC a).1 = 9) : (ovC σ).2.2 a 6 = some (a + 5) := by simp [ovC, rfC, h]
theorem sk_9_70 : ∀ a, a < 134 → (shC a).1 = 9 → shC (a + 6) = (20, 84) := by decide +kernel
theorem sk_9_7 {a : Nat} (h : (shC a).1 = 9) : shC (a + 6) = (20, 84) := sk_9_70 a (shC_lt h (by decide)) h
theorem rf_9_7 {σ : Sto} {a : Nat} (h : (shC a).1 = 9) : (ovC σ).2.2 a 7 = some (a + 6) := by simp [ovC, rfC, h]
theorem sk_9_80 : ∀ a, a < 134 → (shC a).1 = 9 → shC (a + 7) = (20, 84) := by decide +kernel
theorem sk_9_8 {a : Nat} (h : (shC a).1 = 9) : shC (a + 7) = (20, 84) := sk_9_80 a (shC_lt h (by decide)) h
theorem rf_9_8 {σ : Sto} {a : Nat} (h : (shC a).1 = 9) : (ovC σ).2.2 a 8 = some (a + 7) := by simp [ovC, rfC, h]
theorem sk_ring : ∀ j, j < 10 → shC (12 + 5 * j) = (10, 0) := by decide +kernel
theorem sk_imgs : ∀ j, j < 2 → shC (118 + 8 * j) = (3, 0) := by decide +kernel
theorem rf_24 {σ : Sto} {j : Nat} : (ovC σ).2.2 11 j = some (12 + 5 * j) := by simp [ovC, rfC, kC_11]
theorem rf_23 {σ : Sto} {j : Nat} : (ovC σ).2.2 62 j = some (118 + 8 * j) := by simp [ovC, rfC, kC_62]
theorem mu_11_11 : rfC 0 11 = none := by decide +kernel
theorem mu_11_12 : rfC 0 12 = none := by decide +kernel
theorem mu_6_0 : rfC 2 0 = none := by decide +kernel
theorem mu_6_10 : rfC 2 10 = none := by decide +kernel
theorem ovC_sr {σ : Sto} {a k : Nat} {x : Option Nat} (h : rfC a k = none) : sr (ovC σ) a k x = ovC (sr σ a k x) := by
  refine Prod.ext rfl (Prod.ext rfl ?_)
  funext b j
  show u2 (fun a k => (rfC a k).or (σ.2.2 a k)) a k x b j = (rfC b j).or (u2 σ.2.2 a k x b j)
  unfold u2
  by_cases h1 : b = a
  · by_cases h2 : j = k
    · subst h1; subst h2; simp [h]
    · simp [h1, h2]
  · simp [h1]
theorem fv_ref {b : Nat} {I : Nat → Int32} {J : Nat → Int64} {K : Nat → Option Nat} {k x : Nat} {ty : FieldType} (hty : (∃ n, ty = .object n) ∨ ∃ t, ty = .array t) (hK : K k = some x) : fv b I J K k ty = .ref (b + x) := by
  rcases hty with ⟨n, rfl⟩ | ⟨n, rfl⟩ <;> simp [fv, hK, va_rf]
section AWW
variable {p : Program} {l : Launch} {e : Env} {R : Room} {s : State} {m : MethodId} {args : Array Value} {below : List Frame} {meth : Method} {c : Code} {Q : State → Prop} {cells slots : Nat}
variable {G : Gv} {cc : ByteArray} {nL : Nat} {own : String} {pc : Nat} {lv : List (Option Value)} {st : List Value} {σ σ1 : Sto}
theorem gX0_0 (h : Cx p s m args meth c G cc nL own) {index a : Nat} (hl : Cond.fieldLink own index "BasketCap$Book" "lines" "[I" ∈ WS) (d : decode cc pc = .ok (.getfield index, 3)) (ha : (shC a).1 = 0) (kk : AW p l e R s m args below meth c Q cells slots G nL (pc + 3) lv (.ref (a + 1) :: st) shC νC (ovC σ)) : AW p l e R s m args below meth c Q cells slots G nL pc lv (.ref a :: st) shC νC (ovC σ) :=
  hg_get h 0 cf_X0 (by decide) hl (v := .ref (a + 1)) (fv_ref (Or.inr ⟨_, rfl⟩) (rf_0_0 ha)) d (shC_e ha) kk
theorem gX1_0 (h : Cx p s m args meth c G cc nL own) {index a : Nat} (hl : Cond.fieldLink own index "BasketCap$Deal" "made" "[I" ∈ WS) (d : decode cc pc = .ok (.getfield index, 3)) (ha : (shC a).1 = 1) (kk : AW p l e R s m args below meth c Q cells slots G nL (pc + 3) lv (.ref (100) :: st) shC νC (ovC σ)) : AW p l e R s m args below meth c Q cells slots G nL pc lv (.ref a :: st) shC νC (ovC σ) :=
  hg_get h 0 cf_X1 (by decide) hl (v := .ref (100)) (fv_ref (Or.inr ⟨_, rfl⟩) (rf_1_0 ha)) d (shC_e ha) kk
theorem gX1_1 (h : Cx p s m args meth c G cc nL own) {index a : Nat} (hl : Cond.fieldLink own index "BasketCap$Deal" "there" "Z" ∈ WS) (d : decode cc pc = .ok (.getfield index, 3)) (ha : (shC a).1 = 1) (kk : AW p l e R s m args below meth c Q cells slots G nL (pc + 3) lv (.int (σ.1 a 1) :: st) shC νC (ovC σ)) : AW p l e R s m args below meth c Q cells slots G nL pc lv (.ref a :: st) shC νC (ovC σ) :=
  hg_get h 1 cf_X1 (by decide) hl (v := .int (σ.1 a 1)) rfl d (shC_e ha) kk
theorem pX1_1 (h : Cx p s m args meth c G cc nL own) {index a : Nat} {x : Int32} (hl : Cond.fieldLink own index "BasketCap$Deal" "there" "Z" ∈ WS) (d : decode cc pc = .ok (.putfield index, 3)) (ha : (shC a).1 = 1) (hx : x = 0 ∨ x = 1) (he : si σ a 1 x = σ1) (kk : AW p l e R s m args below meth c Q cells slots G nL (pc + 3) lv st shC νC (ovC σ1)) : AW p l e R s m args below meth c Q cells slots G nL pc lv (.int x :: .ref a :: st) shC νC (ovC σ) := by
  subst he
  exact hg_putz h 1 cf_X1 (by decide) hl rfl rfl d (shC_e ha) hx kk
theorem gX2_0 (h : Cx p s m args meth c G cc nL own) {index a : Nat} (hl : Cond.fieldLink own index "BasketCap$Finder" "search" "LBasketCap$Search;" ∈ WS) (d : decode cc pc = .ok (.getfield index, 3)) (ha : (shC a).1 = 2) (kk : AW p l e R s m args below meth c Q cells slots G nL (pc + 3) lv (.ref (63) :: st) shC νC (ovC σ)) : AW p l e R s m args below meth c Q cells slots G nL pc lv (.ref a :: st) shC νC (ovC σ) :=
  hg_get h 0 cf_X2 (by decide) hl (v := .ref (63)) (fv_ref (Or.inl ⟨_, rfl⟩) (rf_2_0 ha)) d (shC_e ha) kk
theorem gX2_1 (h : Cx p s m args meth c G cc nL own) {index a : Nat} (hl : Cond.fieldLink own index "BasketCap$Finder" "best" "LBasketCap$Row;" ∈ WS) (d : decode cc pc = .ok (.getfield index, 3)) (ha : (shC a).1 = 2) (kk : AW p l e R s m args below meth c Q cells slots G nL (pc + 3) lv (.ref (76) :: st) shC νC (ovC σ)) : AW p l e R s m args below meth c Q cells slots G nL pc lv (.ref a :: st) shC νC (ovC σ) :=
  hg_get h 1 cf_X2 (by decide) hl (v := .ref (76)) (fv_ref (Or.inl ⟨_, rfl⟩) (rf_2_1 ha)) d (shC_e ha) kk
theorem gX2_2 (h : Cx p s m args meth c G cc nL own) {index a : Nat} (hl : Cond.fieldLink own index "BasketCap$Finder" "fair" "LBasketCap$Row;" ∈ WS) (d : decode cc pc = .ok (.getfield index, 3)) (ha : (shC a).1 = 2) (kk : AW p l e R s m args below meth c Q cells slots G nL (pc + 3) lv (.ref (78) :: st) shC νC (ovC σ)) : AW p l e R s m args below meth c Q cells slots G nL pc lv (.ref a :: st) shC νC (ovC σ) :=
  hg_get h 2 cf_X2 (by decide) hl (v := .ref (78)) (fv_ref (Or.inl ⟨_, rfl⟩) (rf_2_2 ha)) d (shC_e ha) kk
theorem gX2_3 (h : Cx p s m args meth c G cc nL own) {index a : Nat} (hl : Cond.fieldLink own index "BasketCap$Finder" "gentle" "LBasketCap$Row;" ∈ WS) (d : decode cc pc = .ok (.getfield index, 3)) (ha : (shC a).1 = 2) (kk : AW p l e R s m args below meth c Q cells slots G nL (pc + 3) lv (.ref (80) :: st) shC νC (ovC σ)) : AW p l e R s m args below meth c Q cells slots G nL pc lv (.ref a :: st) shC νC (ovC σ) :=
  hg_get h 3 cf_X2 (by decide) hl (v := .ref (80)) (fv_ref (Or.inl ⟨_, rfl⟩) (rf_2_3 ha)) d (shC_e ha) kk
theorem gX2_4 (h : Cx p s m args meth c G cc nL own) {index a : Nat} (hl : Cond.fieldLink own index "BasketCap$Finder" "steady" "LBasketCap$Row;" ∈ WS) (d : decode cc pc = .ok (.getfield index, 3)) (ha : (shC a).1 = 2) (kk : AW p l e R s m args below meth c Q cells slots G nL (pc + 3) lv (.ref (82) :: st) shC νC (ovC σ)) : AW p l e R s m args below meth c Q cells slots G nL pc lv (.ref a :: st) shC νC (ovC σ) :=
  hg_get h 4 cf_X2 (by decide) hl (v := .ref (82)) (fv_ref (Or.inl ⟨_, rfl⟩) (rf_2_4 ha)) d (shC_e ha) kk
theorem gX2_5 (h : Cx p s m args meth c G cc nL own) {index a : Nat} (hl : Cond.fieldLink own index "BasketCap$Finder" "steadyBy" "I" ∈ WS) (d : decode cc pc = .ok (.getfield index, 3)) (ha : (shC a).1 = 2) (kk : AW p l e R s m args below meth c Q cells slots G nL (pc + 3) lv (.int (σ.1 a 5) :: st) shC νC (ovC σ)) : AW p l e R s m args below meth c Q cells slots G nL pc lv (.ref a :: st) shC νC (ovC σ) :=
  hg_get h 5 cf_X2 (by decide) hl (v := .int (σ.1 a 5)) rfl d (shC_e ha) kk
theorem pX2_5 (h : Cx p s m args meth c G cc nL own) {index a : Nat} {x : Int32} (hl : Cond.fieldLink own index "BasketCap$Finder" "steadyBy" "I" ∈ WS) (d : decode cc pc = .ok (.putfield index, 3)) (ha : (shC a).1 = 2) (he : si σ a 5 x = σ1) (kk : AW p l e R s m args below meth c Q cells slots G nL (pc + 3) lv st shC νC (ovC σ1)) : AW p l e R s m args below meth c Q cells slots G nL pc lv (.int x :: .ref a :: st) shC νC (ovC σ) := by
  subst he
  exact hg_puti h 5 cf_X2 (by decide) hl rfl rfl d (shC_e ha) kk
theorem gX2_6 (h : Cx p s m args meth c G cc nL own) {index a : Nat} (hl : Cond.fieldLink own index "BasketCap$Finder" "counted" "I" ∈ WS) (d : decode cc pc = .ok (.getfield index, 3)) (ha : (shC a).1 = 2) (kk : AW p l e R s m args below meth c Q cells slots G nL (pc + 3) lv (.int (σ.1 a 6) :: st) shC νC (ovC σ)) : AW p l e R s m args below meth c Q cells slots G nL pc lv (.ref a :: st) shC νC (ovC σ) :=
  hg_get h 6 cf_X2 (by decide) hl (v := .int (σ.1 a 6)) rfl d (shC_e ha) kk
theorem pX2_6 (h : Cx p s m args meth c G cc nL own) {index a : Nat} {x : Int32} (hl : Cond.fieldLink own index "BasketCap$Finder" "counted" "I" ∈ WS) (d : decode cc pc = .ok (.putfield index, 3)) (ha : (shC a).1 = 2) (he : si σ a 6 x = σ1) (kk : AW p l e R s m args below meth c Q cells slots G nL (pc + 3) lv st shC νC (ovC σ1)) : AW p l e R s m args below meth c Q cells slots G nL pc lv (.int x :: .ref a :: st) shC νC (ovC σ) := by
  subst he
  exact hg_puti h 6 cf_X2 (by decide) hl rfl rfl d (shC_e ha) kk
theorem gX3_0 (h : Cx p s m args meth c G cc nL own) {index a : Nat} (hl : Cond.fieldLink own index "BasketCap$Image" "there" "Z" ∈ WS) (d : decode cc pc = .ok (.getfield index, 3)) (ha : (shC a).1 = 3) (kk : AW p l e R s m args below meth c Q cells slots G nL (pc + 3) lv (.int (σ.1 a 0) :: st) shC νC (ovC σ)) : AW p l e R s m args below meth c Q cells slots G nL pc lv (.ref a :: st) shC νC (ovC σ) :=
  hg_get h 0 cf_X3 (by decide) hl (v := .int (σ.1 a 0)) rfl d (shC_e ha) kk
theorem pX3_0 (h : Cx p s m args meth c G cc nL own) {index a : Nat} {x : Int32} (hl : Cond.fieldLink own index "BasketCap$Image" "there" "Z" ∈ WS) (d : decode cc pc = .ok (.putfield index, 3)) (ha : (shC a).1 = 3) (hx : x = 0 ∨ x = 1) (he : si σ a 0 x = σ1) (kk : AW p l e R s m args below meth c Q cells slots G nL (pc + 3) lv st shC νC (ovC σ1)) : AW p l e R s m args below meth c Q cells slots G nL pc lv (.int x :: .ref a :: st) shC νC (ovC σ) := by
  subst he
  exact hg_putz h 0 cf_X3 (by decide) hl rfl rfl d (shC_e ha) hx kk
theorem gX3_1 (h : Cx p s m args meth c G cc nL own) {index a : Nat} (hl : Cond.fieldLink own index "BasketCap$Image" "year" "LBasketCap$Year;" ∈ WS) (d : decode cc pc = .ok (.getfield index, 3)) (ha : (shC a).1 = 3) (kk : AW p l e R s m args below meth c Q cells slots G nL (pc + 3) lv (.ref (a + 1) :: st) shC νC (ovC σ)) : AW p l e R s m args below meth c Q cells slots G nL pc lv (.ref a :: st) shC νC (ovC σ) :=
  hg_get h 1 cf_X3 (by decide) hl (v := .ref (a + 1)) (fv_ref (Or.inl ⟨_, rfl⟩) (rf_3_1 ha)) d (shC_e ha) kk
theorem gX3_2 (h : Cx p s m args meth c G cc nL own) {index a : Nat} (hl : Cond.fieldLink own index "BasketCap$Image" "book" "LBasketCap$Book;" ∈ WS) (d : decode cc pc = .ok (.getfield index, 3)) (ha : (shC a).1 = 3) (kk : AW p l e R s m args below meth c Q cells slots G nL (pc + 3) lv (.ref (a + 6) :: st) shC νC (ovC σ)) : AW p l e R s m args below meth c Q cells slots G nL pc lv (.ref a :: st) shC νC (ovC σ) :=
  hg_get h 2 cf_X3 (by decide) hl (v := .ref (a + 6)) (fv_ref (Or.inl ⟨_, rfl⟩) (rf_3_2 ha)) d (shC_e ha) kk
theorem gX4_0 (h : Cx p s m args meth c G cc nL own) {index a : Nat} (hl : Cond.fieldLink own index "BasketCap$Paper" "search" "LBasketCap$Search;" ∈ WS) (d : decode cc pc = .ok (.getfield index, 3)) (ha : (shC a).1 = 4) (kk : AW p l e R s m args below meth c Q cells slots G nL (pc + 3) lv (.ref (63) :: st) shC νC (ovC σ)) : AW p l e R s m args below meth c Q cells slots G nL pc lv (.ref a :: st) shC νC (ovC σ) :=
  hg_get h 0 cf_X4 (by decide) hl (v := .ref (63)) (fv_ref (Or.inl ⟨_, rfl⟩) (rf_4_0 ha)) d (shC_e ha) kk
theorem gX4_1 (h : Cx p s m args meth c G cc nL own) {index a : Nat} (hl : Cond.fieldLink own index "BasketCap$Paper" "row" "LBasketCap$Row;" ∈ WS) (d : decode cc pc = .ok (.getfield index, 3)) (ha : (shC a).1 = 4) (kk : AW p l e R s m args below meth c Q cells slots G nL (pc + 3) lv (.ref (85) :: st) shC νC (ovC σ)) : AW p l e R s m args below meth c Q cells slots G nL pc lv (.ref a :: st) shC νC (ovC σ) :=
  hg_get h 1 cf_X4 (by decide) hl (v := .ref (85)) (fv_ref (Or.inl ⟨_, rfl⟩) (rf_4_1 ha)) d (shC_e ha) kk
theorem gX4_2 (h : Cx p s m args meth c G cc nL own) {index a : Nat} (hl : Cond.fieldLink own index "BasketCap$Paper" "ahead" "LBasketCap$Year;" ∈ WS) (d : decode cc pc = .ok (.getfield index, 3)) (ha : (shC a).1 = 4) (kk : AW p l e R s m args below meth c Q cells slots G nL (pc + 3) lv (.ref (87) :: st) shC νC (ovC σ)) : AW p l e R s m args below meth c Q cells slots G nL pc lv (.ref a :: st) shC νC (ovC σ) :=
  hg_get h 2 cf_X4 (by decide) hl (v := .ref (87)) (fv_ref (Or.inl ⟨_, rfl⟩) (rf_4_2 ha)) d (shC_e ha) kk
theorem gX4_3 (h : Cx p s m args meth c G cc nL own) {index a : Nat} (hl : Cond.fieldLink own index "BasketCap$Paper" "trial" "LBasketCap$Year;" ∈ WS) (d : decode cc pc = .ok (.getfield index, 3)) (ha : (shC a).1 = 4) (kk : AW p l e R s m args below meth c Q cells slots G nL (pc + 3) lv (.ref (92) :: st) shC νC (ovC σ)) : AW p l e R s m args below meth c Q cells slots G nL pc lv (.ref a :: st) shC νC (ovC σ) :=
  hg_get h 3 cf_X4 (by decide) hl (v := .ref (92)) (fv_ref (Or.inl ⟨_, rfl⟩) (rf_4_3 ha)) d (shC_e ha) kk
theorem gX4_4 (h : Cx p s m args meth c G cc nL own) {index a : Nat} (hl : Cond.fieldLink own index "BasketCap$Paper" "walked" "[I" ∈ WS) (d : decode cc pc = .ok (.getfield index, 3)) (ha : (shC a).1 = 4) (kk : AW p l e R s m args below meth c Q cells slots G nL (pc + 3) lv (.ref (97) :: st) shC νC (ovC σ)) : AW p l e R s m args below meth c Q cells slots G nL pc lv (.ref a :: st) shC νC (ovC σ) :=
  hg_get h 4 cf_X4 (by decide) hl (v := .ref (97)) (fv_ref (Or.inr ⟨_, rfl⟩) (rf_4_4 ha)) d (shC_e ha) kk
theorem gX4_5 (h : Cx p s m args meth c G cc nL own) {index a : Nat} (hl : Cond.fieldLink own index "BasketCap$Paper" "played" "[I" ∈ WS) (d : decode cc pc = .ok (.getfield index, 3)) (ha : (shC a).1 = 4) (kk : AW p l e R s m args below meth c Q cells slots G nL (pc + 3) lv (.ref (98) :: st) shC νC (ovC σ)) : AW p l e R s m args below meth c Q cells slots G nL pc lv (.ref a :: st) shC νC (ovC σ) :=
  hg_get h 5 cf_X4 (by decide) hl (v := .ref (98)) (fv_ref (Or.inr ⟨_, rfl⟩) (rf_4_5 ha)) d (shC_e ha) kk
theorem gX4_6 (h : Cx p s m args meth c G cc nL own) {index a : Nat} (hl : Cond.fieldLink own index "BasketCap$Paper" "years" "I" ∈ WS) (d : decode cc pc = .ok (.getfield index, 3)) (ha : (shC a).1 = 4) (kk : AW p l e R s m args below meth c Q cells slots G nL (pc + 3) lv (.int (σ.1 a 6) :: st) shC νC (ovC σ)) : AW p l e R s m args below meth c Q cells slots G nL pc lv (.ref a :: st) shC νC (ovC σ) :=
  hg_get h 6 cf_X4 (by decide) hl (v := .int (σ.1 a 6)) rfl d (shC_e ha) kk
theorem pX4_6 (h : Cx p s m args meth c G cc nL own) {index a : Nat} {x : Int32} (hl : Cond.fieldLink own index "BasketCap$Paper" "years" "I" ∈ WS) (d : decode cc pc = .ok (.putfield index, 3)) (ha : (shC a).1 = 4) (he : si σ a 6 x = σ1) (kk : AW p l e R s m args below meth c Q cells slots G nL (pc + 3) lv st shC νC (ovC σ1)) : AW p l e R s m args below meth c Q cells slots G nL pc lv (.int x :: .ref a :: st) shC νC (ovC σ) := by
  subst he
  exact hg_puti h 6 cf_X4 (by decide) hl rfl rfl d (shC_e ha) kk
theorem gX4_7 (h : Cx p s m args meth c G cc nL own) {index a : Nat} (hl : Cond.fieldLink own index "BasketCap$Paper" "gameKnown" "Z" ∈ WS) (d : decode cc pc = .ok (.getfield index, 3)) (ha : (shC a).1 = 4) (kk : AW p l e R s m args below meth c Q cells slots G nL (pc + 3) lv (.int (σ.1 a 7) :: st) shC νC (ovC σ)) : AW p l e R s m args below meth c Q cells slots G nL pc lv (.ref a :: st) shC νC (ovC σ) :=
  hg_get h 7 cf_X4 (by decide) hl (v := .int (σ.1 a 7)) rfl d (shC_e ha) kk
theorem pX4_7 (h : Cx p s m args meth c G cc nL own) {index a : Nat} {x : Int32} (hl : Cond.fieldLink own index "BasketCap$Paper" "gameKnown" "Z" ∈ WS) (d : decode cc pc = .ok (.putfield index, 3)) (ha : (shC a).1 = 4) (hx : x = 0 ∨ x = 1) (he : si σ a 7 x = σ1) (kk : AW p l e R s m args below meth c Q cells slots G nL (pc + 3) lv st shC νC (ovC σ1)) : AW p l e R s m args below meth c Q cells slots G nL pc lv (.int x :: .ref a :: st) shC νC (ovC σ) := by
  subst he
  exact hg_putz h 7 cf_X4 (by decide) hl rfl rfl d (shC_e ha) hx kk
theorem gX4_8 (h : Cx p s m args meth c G cc nL own) {index a : Nat} (hl : Cond.fieldLink own index "BasketCap$Paper" "gameThere" "Z" ∈ WS) (d : decode cc pc = .ok (.getfield index, 3)) (ha : (shC a).1 = 4) (kk : AW p l e R s m args below meth c Q cells slots G nL (pc + 3) lv (.int (σ.1 a 8) :: st) shC νC (ovC σ)) : AW p l e R s m args below meth c Q cells slots G nL pc lv (.ref a :: st) shC νC (ovC σ) :=
  hg_get h 8 cf_X4 (by decide) hl (v := .int (σ.1 a 8)) rfl d (shC_e ha) kk
theorem pX4_8 (h : Cx p s m args meth c G cc nL own) {index a : Nat} {x : Int32} (hl : Cond.fieldLink own index "BasketCap$Paper" "gameThere" "Z" ∈ WS) (d : decode cc pc = .ok (.putfield index, 3)) (ha : (shC a).1 = 4) (hx : x = 0 ∨ x = 1) (he : si σ a 8 x = σ1) (kk : AW p l e R s m args below meth c Q cells slots G nL (pc + 3) lv st shC νC (ovC σ1)) : AW p l e R s m args below meth c Q cells slots G nL pc lv (.int x :: .ref a :: st) shC νC (ovC σ) := by
  subst he
  exact hg_putz h 8 cf_X4 (by decide) hl rfl rfl d (shC_e ha) hx kk
theorem gX4_9 (h : Cx p s m args meth c G cc nL own) {index a : Nat} (hl : Cond.fieldLink own index "BasketCap$Paper" "nextKnown" "Z" ∈ WS) (d : decode cc pc = .ok (.getfield index, 3)) (ha : (shC a).1 = 4) (kk : AW p l e R s m args below meth c Q cells slots G nL (pc + 3) lv (.int (σ.1 a 9) :: st) shC νC (ovC σ)) : AW p l e R s m args below meth c Q cells slots G nL pc lv (.ref a :: st) shC νC (ovC σ) :=
  hg_get h 9 cf_X4 (by decide) hl (v := .int (σ.1 a 9)) rfl d (shC_e ha) kk
theorem pX4_9 (h : Cx p s m args meth c G cc nL own) {index a : Nat} {x : Int32} (hl : Cond.fieldLink own index "BasketCap$Paper" "nextKnown" "Z" ∈ WS) (d : decode cc pc = .ok (.putfield index, 3)) (ha : (shC a).1 = 4) (hx : x = 0 ∨ x = 1) (he : si σ a 9 x = σ1) (kk : AW p l e R s m args below meth c Q cells slots G nL (pc + 3) lv st shC νC (ovC σ1)) : AW p l e R s m args below meth c Q cells slots G nL pc lv (.int x :: .ref a :: st) shC νC (ovC σ) := by
  subst he
  exact hg_putz h 9 cf_X4 (by decide) hl rfl rfl d (shC_e ha) hx kk
theorem gX4_10 (h : Cx p s m args meth c G cc nL own) {index a : Nat} (hl : Cond.fieldLink own index "BasketCap$Paper" "nextFound" "I" ∈ WS) (d : decode cc pc = .ok (.getfield index, 3)) (ha : (shC a).1 = 4) (kk : AW p l e R s m args below meth c Q cells slots G nL (pc + 3) lv (.int (σ.1 a 10) :: st) shC νC (ovC σ)) : AW p l e R s m args below meth c Q cells slots G nL pc lv (.ref a :: st) shC νC (ovC σ) :=
  hg_get h 10 cf_X4 (by decide) hl (v := .int (σ.1 a 10)) rfl d (shC_e ha) kk
theorem pX4_10 (h : Cx p s m args meth c G cc nL own) {index a : Nat} {x : Int32} (hl : Cond.fieldLink own index "BasketCap$Paper" "nextFound" "I" ∈ WS) (d : decode cc pc = .ok (.putfield index, 3)) (ha : (shC a).1 = 4) (he : si σ a 10 x = σ1) (kk : AW p l e R s m args below meth c Q cells slots G nL (pc + 3) lv st shC νC (ovC σ1)) : AW p l e R s m args below meth c Q cells slots G nL pc lv (.int x :: .ref a :: st) shC νC (ovC σ) := by
  subst he
  exact hg_puti h 10 cf_X4 (by decide) hl rfl rfl d (shC_e ha) kk
theorem gX5_0 (h : Cx p s m args meth c G cc nL own) {index a : Nat} (hl : Cond.fieldLink own index "BasketCap$Past" "ring" "[LBasketCap$Year;" ∈ WS) (d : decode cc pc = .ok (.getfield index, 3)) (ha : (shC a).1 = 5) (kk : AW p l e R s m args below meth c Q cells slots G nL (pc + 3) lv (.ref (11) :: st) shC νC (ovC σ)) : AW p l e R s m args below meth c Q cells slots G nL pc lv (.ref a :: st) shC νC (ovC σ) :=
  hg_get h 0 cf_X5 (by decide) hl (v := .ref (11)) (fv_ref (Or.inr ⟨_, rfl⟩) (rf_5_0 ha)) d (shC_e ha) kk
theorem gX5_1 (h : Cx p s m args meth c G cc nL own) {index a : Nat} (hl : Cond.fieldLink own index "BasketCap$Past" "head" "I" ∈ WS) (d : decode cc pc = .ok (.getfield index, 3)) (ha : (shC a).1 = 5) (kk : AW p l e R s m args below meth c Q cells slots G nL (pc + 3) lv (.int (σ.1 a 1) :: st) shC νC (ovC σ)) : AW p l e R s m args below meth c Q cells slots G nL pc lv (.ref a :: st) shC νC (ovC σ) :=
  hg_get h 1 cf_X5 (by decide) hl (v := .int (σ.1 a 1)) rfl d (shC_e ha) kk
theorem pX5_1 (h : Cx p s m args meth c G cc nL own) {index a : Nat} {x : Int32} (hl : Cond.fieldLink own index "BasketCap$Past" "head" "I" ∈ WS) (d : decode cc pc = .ok (.putfield index, 3)) (ha : (shC a).1 = 5) (he : si σ a 1 x = σ1) (kk : AW p l e R s m args below meth c Q cells slots G nL (pc + 3) lv st shC νC (ovC σ1)) : AW p l e R s m args below meth c Q cells slots G nL pc lv (.int x :: .ref a :: st) shC νC (ovC σ) := by
  subst he
  exact hg_puti h 1 cf_X5 (by decide) hl rfl rfl d (shC_e ha) kk
theorem gX5_2 (h : Cx p s m args meth c G cc nL own) {index a : Nat} (hl : Cond.fieldLink own index "BasketCap$Past" "count" "I" ∈ WS) (d : decode cc pc = .ok (.getfield index, 3)) (ha : (shC a).1 = 5) (kk : AW p l e R s m args below meth c Q cells slots G nL (pc + 3) lv (.int (σ.1 a 2) :: st) shC νC (ovC σ)) : AW p l e R s m args below meth c Q cells slots G nL pc lv (.ref a :: st) shC νC (ovC σ) :=
  hg_get h 2 cf_X5 (by decide) hl (v := .int (σ.1 a 2)) rfl d (shC_e ha) kk
theorem pX5_2 (h : Cx p s m args meth c G cc nL own) {index a : Nat} {x : Int32} (hl : Cond.fieldLink own index "BasketCap$Past" "count" "I" ∈ WS) (d : decode cc pc = .ok (.putfield index, 3)) (ha : (shC a).1 = 5) (he : si σ a 2 x = σ1) (kk : AW p l e R s m args below meth c Q cells slots G nL (pc + 3) lv st shC νC (ovC σ1)) : AW p l e R s m args below meth c Q cells slots G nL pc lv (.int x :: .ref a :: st) shC νC (ovC σ) := by
  subst he
  exact hg_puti h 2 cf_X5 (by decide) hl rfl rfl d (shC_e ha) kk
theorem gX6_0 (h : Cx p s m args meth c G cc nL own) {index x : Nat} (hl : Cond.fieldLink own index "BasketCap$Reader" "source" "[I" ∈ WS) (d : decode cc pc = .ok (.getfield index, 3)) (hv : σ.2.2 2 0 = some x) (kk : AW p l e R s m args below meth c Q cells slots G nL (pc + 3) lv (.ref x :: st) shC νC (ovC σ)) : AW p l e R s m args below meth c Q cells slots G nL pc lv (.ref 2 :: st) shC νC (ovC σ) :=
  hg_get h 0 cf_X6 (by decide) hl (v := .ref x) (fv_ref (Or.inr ⟨_, rfl⟩) (show (rfC 2 0).or (σ.2.2 2 0) = some x by rw [mu_6_0]; exact hv)) d (kC_2) kk
theorem pX6_0 (h : Cx p s m args meth c G cc nL own) {index x : Nat} (hl : Cond.fieldLink own index "BasketCap$Reader" "source" "[I" ∈ WS) (d : decode cc pc = .ok (.putfield index, 3)) (he : sr σ 2 0 (some x) = σ1) (kk : AW p l e R s m args below meth c Q cells slots G nL (pc + 3) lv st shC νC (ovC σ1)) : AW p l e R s m args below meth c Q cells slots G nL pc lv (.ref x :: .ref 2 :: st) shC νC (ovC σ) := by
  subst he
  rw [← ovC_sr mu_6_0] at kk
  exact hg_putr h 0 cf_X6 (by decide) hl (Or.inl rfl) (Or.inr ⟨_, rfl⟩) d (kC_2) kk
theorem gX6_1 (h : Cx p s m args meth c G cc nL own) {index a : Nat} (hl : Cond.fieldLink own index "BasketCap$Reader" "end" "I" ∈ WS) (d : decode cc pc = .ok (.getfield index, 3)) (ha : (shC a).1 = 6) (kk : AW p l e R s m args below meth c Q cells slots G nL (pc + 3) lv (.int (σ.1 a 1) :: st) shC νC (ovC σ)) : AW p l e R s m args below meth c Q cells slots G nL pc lv (.ref a :: st) shC νC (ovC σ) :=
  hg_get h 1 cf_X6 (by decide) hl (v := .int (σ.1 a 1)) rfl d (shC_e ha) kk
theorem pX6_1 (h : Cx p s m args meth c G cc nL own) {index a : Nat} {x : Int32} (hl : Cond.fieldLink own index "BasketCap$Reader" "end" "I" ∈ WS) (d : decode cc pc = .ok (.putfield index, 3)) (ha : (shC a).1 = 6) (he : si σ a 1 x = σ1) (kk : AW p l e R s m args below meth c Q cells slots G nL (pc + 3) lv st shC νC (ovC σ1)) : AW p l e R s m args below meth c Q cells slots G nL pc lv (.int x :: .ref a :: st) shC νC (ovC σ) := by
  subst he
  exact hg_puti h 1 cf_X6 (by decide) hl rfl rfl d (shC_e ha) kk
theorem gX6_2 (h : Cx p s m args meth c G cc nL own) {index a : Nat} (hl : Cond.fieldLink own index "BasketCap$Reader" "at" "I" ∈ WS) (d : decode cc pc = .ok (.getfield index, 3)) (ha : (shC a).1 = 6) (kk : AW p l e R s m args below meth c Q cells slots G nL (pc + 3) lv (.int (σ.1 a 2) :: st) shC νC (ovC σ)) : AW p l e R s m args below meth c Q cells slots G nL pc lv (.ref a :: st) shC νC (ovC σ) :=
  hg_get h 2 cf_X6 (by decide) hl (v := .int (σ.1 a 2)) rfl d (shC_e ha) kk
theorem pX6_2 (h : Cx p s m args meth c G cc nL own) {index a : Nat} {x : Int32} (hl : Cond.fieldLink own index "BasketCap$Reader" "at" "I" ∈ WS) (d : decode cc pc = .ok (.putfield index, 3)) (ha : (shC a).1 = 6) (he : si σ a 2 x = σ1) (kk : AW p l e R s m args below meth c Q cells slots G nL (pc + 3) lv st shC νC (ovC σ1)) : AW p l e R s m args below meth c Q cells slots G nL pc lv (.int x :: .ref a :: st) shC νC (ovC σ) := by
  subst he
  exact hg_puti h 2 cf_X6 (by decide) hl rfl rfl d (shC_e ha) kk
theorem gX6_3 (h : Cx p s m args meth c G cc nL own) {index a : Nat} (hl : Cond.fieldLink own index "BasketCap$Reader" "kind" "I" ∈ WS) (d : decode cc pc = .ok (.getfield index, 3)) (ha : (shC a).1 = 6) (kk : AW p l e R s m args below meth c Q cells slots G nL (pc + 3) lv (.int (σ.1 a 3) :: st) shC νC (ovC σ)) : AW p l e R s m args below meth c Q cells slots G nL pc lv (.ref a :: st) shC νC (ovC σ) :=
  hg_get h 3 cf_X6 (by decide) hl (v := .int (σ.1 a 3)) rfl d (shC_e ha) kk
theorem pX6_3 (h : Cx p s m args meth c G cc nL own) {index a : Nat} {x : Int32} (hl : Cond.fieldLink own index "BasketCap$Reader" "kind" "I" ∈ WS) (d : decode cc pc = .ok (.putfield index, 3)) (ha : (shC a).1 = 6) (he : si σ a 3 x = σ1) (kk : AW p l e R s m args below meth c Q cells slots G nL (pc + 3) lv st shC νC (ovC σ1)) : AW p l e R s m args below meth c Q cells slots G nL pc lv (.int x :: .ref a :: st) shC νC (ovC σ) := by
  subst he
  exact hg_puti h 3 cf_X6 (by decide) hl rfl rfl d (shC_e ha) kk
theorem gX6_4 (h : Cx p s m args meth c G cc nL own) {index a : Nat} (hl : Cond.fieldLink own index "BasketCap$Reader" "start" "I" ∈ WS) (d : decode cc pc = .ok (.getfield index, 3)) (ha : (shC a).1 = 6) (kk : AW p l e R s m args below meth c Q cells slots G nL (pc + 3) lv (.int (σ.1 a 4) :: st) shC νC (ovC σ)) : AW p l e R s m args below meth c Q cells slots G nL pc lv (.ref a :: st) shC νC (ovC σ) :=
  hg_get h 4 cf_X6 (by decide) hl (v := .int (σ.1 a 4)) rfl d (shC_e ha) kk
theorem pX6_4 (h : Cx p s m args meth c G cc nL own) {index a : Nat} {x : Int32} (hl : Cond.fieldLink own index "BasketCap$Reader" "start" "I" ∈ WS) (d : decode cc pc = .ok (.putfield index, 3)) (ha : (shC a).1 = 6) (he : si σ a 4 x = σ1) (kk : AW p l e R s m args below meth c Q cells slots G nL (pc + 3) lv st shC νC (ovC σ1)) : AW p l e R s m args below meth c Q cells slots G nL pc lv (.int x :: .ref a :: st) shC νC (ovC σ) := by
  subst he
  exact hg_puti h 4 cf_X6 (by decide) hl rfl rfl d (shC_e ha) kk
theorem gX6_5 (h : Cx p s m args meth c G cc nL own) {index a : Nat} (hl : Cond.fieldLink own index "BasketCap$Reader" "whole" "I" ∈ WS) (d : decode cc pc = .ok (.getfield index, 3)) (ha : (shC a).1 = 6) (kk : AW p l e R s m args below meth c Q cells slots G nL (pc + 3) lv (.int (σ.1 a 5) :: st) shC νC (ovC σ)) : AW p l e R s m args below meth c Q cells slots G nL pc lv (.ref a :: st) shC νC (ovC σ) :=
  hg_get h 5 cf_X6 (by decide) hl (v := .int (σ.1 a 5)) rfl d (shC_e ha) kk
theorem pX6_5 (h : Cx p s m args meth c G cc nL own) {index a : Nat} {x : Int32} (hl : Cond.fieldLink own index "BasketCap$Reader" "whole" "I" ∈ WS) (d : decode cc pc = .ok (.putfield index, 3)) (ha : (shC a).1 = 6) (he : si σ a 5 x = σ1) (kk : AW p l e R s m args below meth c Q cells slots G nL (pc + 3) lv st shC νC (ovC σ1)) : AW p l e R s m args below meth c Q cells slots G nL pc lv (.int x :: .ref a :: st) shC νC (ovC σ) := by
  subst he
  exact hg_puti h 5 cf_X6 (by decide) hl rfl rfl d (shC_e ha) kk
theorem gX6_6 (h : Cx p s m args meth c G cc nL own) {index a : Nat} (hl : Cond.fieldLink own index "BasketCap$Reader" "word" "J" ∈ WS) (d : decode cc pc = .ok (.getfield index, 3)) (ha : (shC a).1 = 6) (kk : AW p l e R s m args below meth c Q cells slots G nL (pc + 3) lv (.long (σ.2.1 a 6) :: st) shC νC (ovC σ)) : AW p l e R s m args below meth c Q cells slots G nL pc lv (.ref a :: st) shC νC (ovC σ) :=
  hg_get h 6 cf_X6 (by decide) hl (v := .long (σ.2.1 a 6)) rfl d (shC_e ha) kk
theorem pX6_6 (h : Cx p s m args meth c G cc nL own) {index a : Nat} {x : Int64} (hl : Cond.fieldLink own index "BasketCap$Reader" "word" "J" ∈ WS) (d : decode cc pc = .ok (.putfield index, 3)) (ha : (shC a).1 = 6) (he : sj σ a 6 x = σ1) (kk : AW p l e R s m args below meth c Q cells slots G nL (pc + 3) lv st shC νC (ovC σ1)) : AW p l e R s m args below meth c Q cells slots G nL pc lv (.long x :: .ref a :: st) shC νC (ovC σ) := by
  subst he
  exact hg_putj h 6 cf_X6 (by decide) hl rfl rfl d (shC_e ha) kk
theorem gX6_7 (h : Cx p s m args meth c G cc nL own) {index a : Nat} (hl : Cond.fieldLink own index "BasketCap$Reader" "rulesSeen" "I" ∈ WS) (d : decode cc pc = .ok (.getfield index, 3)) (ha : (shC a).1 = 6) (kk : AW p l e R s m args below meth c Q cells slots G nL (pc + 3) lv (.int (σ.1 a 7) :: st) shC νC (ovC σ)) : AW p l e R s m args below meth c Q cells slots G nL pc lv (.ref a :: st) shC νC (ovC σ) :=
  hg_get h 7 cf_X6 (by decide) hl (v := .int (σ.1 a 7)) rfl d (shC_e ha) kk
theorem pX6_7 (h : Cx p s m args meth c G cc nL own) {index a : Nat} {x : Int32} (hl : Cond.fieldLink own index "BasketCap$Reader" "rulesSeen" "I" ∈ WS) (d : decode cc pc = .ok (.putfield index, 3)) (ha : (shC a).1 = 6) (he : si σ a 7 x = σ1) (kk : AW p l e R s m args below meth c Q cells slots G nL (pc + 3) lv st shC νC (ovC σ1)) : AW p l e R s m args below meth c Q cells slots G nL pc lv (.int x :: .ref a :: st) shC νC (ovC σ) := by
  subst he
  exact hg_puti h 7 cf_X6 (by decide) hl rfl rfl d (shC_e ha) kk
theorem gX6_8 (h : Cx p s m args meth c G cc nL own) {index a : Nat} (hl : Cond.fieldLink own index "BasketCap$Reader" "faultFound" "I" ∈ WS) (d : decode cc pc = .ok (.getfield index, 3)) (ha : (shC a).1 = 6) (kk : AW p l e R s m args below meth c Q cells slots G nL (pc + 3) lv (.int (σ.1 a 8) :: st) shC νC (ovC σ)) : AW p l e R s m args below meth c Q cells slots G nL pc lv (.ref a :: st) shC νC (ovC σ) :=
  hg_get h 8 cf_X6 (by decide) hl (v := .int (σ.1 a 8)) rfl d (shC_e ha) kk
theorem pX6_8 (h : Cx p s m args meth c G cc nL own) {index a : Nat} {x : Int32} (hl : Cond.fieldLink own index "BasketCap$Reader" "faultFound" "I" ∈ WS) (d : decode cc pc = .ok (.putfield index, 3)) (ha : (shC a).1 = 6) (he : si σ a 8 x = σ1) (kk : AW p l e R s m args below meth c Q cells slots G nL (pc + 3) lv st shC νC (ovC σ1)) : AW p l e R s m args below meth c Q cells slots G nL pc lv (.int x :: .ref a :: st) shC νC (ovC σ) := by
  subst he
  exact hg_puti h 8 cf_X6 (by decide) hl rfl rfl d (shC_e ha) kk
theorem gX6_9 (h : Cx p s m args meth c G cc nL own) {index a : Nat} (hl : Cond.fieldLink own index "BasketCap$Reader" "placeFound" "I" ∈ WS) (d : decode cc pc = .ok (.getfield index, 3)) (ha : (shC a).1 = 6) (kk : AW p l e R s m args below meth c Q cells slots G nL (pc + 3) lv (.int (σ.1 a 9) :: st) shC νC (ovC σ)) : AW p l e R s m args below meth c Q cells slots G nL pc lv (.ref a :: st) shC νC (ovC σ) :=
  hg_get h 9 cf_X6 (by decide) hl (v := .int (σ.1 a 9)) rfl d (shC_e ha) kk
theorem pX6_9 (h : Cx p s m args meth c G cc nL own) {index a : Nat} {x : Int32} (hl : Cond.fieldLink own index "BasketCap$Reader" "placeFound" "I" ∈ WS) (d : decode cc pc = .ok (.putfield index, 3)) (ha : (shC a).1 = 6) (he : si σ a 9 x = σ1) (kk : AW p l e R s m args below meth c Q cells slots G nL (pc + 3) lv st shC νC (ovC σ1)) : AW p l e R s m args below meth c Q cells slots G nL pc lv (.int x :: .ref a :: st) shC νC (ovC σ) := by
  subst he
  exact hg_puti h 9 cf_X6 (by decide) hl rfl rfl d (shC_e ha) kk
theorem gX6_10 (h : Cx p s m args meth c G cc nL own) {index x : Nat} (hl : Cond.fieldLink own index "BasketCap$Reader" "into" "LBasketCap$Told;" ∈ WS) (d : decode cc pc = .ok (.getfield index, 3)) (hv : σ.2.2 2 10 = some x) (kk : AW p l e R s m args below meth c Q cells slots G nL (pc + 3) lv (.ref x :: st) shC νC (ovC σ)) : AW p l e R s m args below meth c Q cells slots G nL pc lv (.ref 2 :: st) shC νC (ovC σ) :=
  hg_get h 10 cf_X6 (by decide) hl (v := .ref x) (fv_ref (Or.inl ⟨_, rfl⟩) (show (rfC 2 10).or (σ.2.2 2 10) = some x by rw [mu_6_10]; exact hv)) d (kC_2) kk
theorem pX6_10 (h : Cx p s m args meth c G cc nL own) {index x : Nat} (hl : Cond.fieldLink own index "BasketCap$Reader" "into" "LBasketCap$Told;" ∈ WS) (d : decode cc pc = .ok (.putfield index, 3)) (he : sr σ 2 10 (some x) = σ1) (kk : AW p l e R s m args below meth c Q cells slots G nL (pc + 3) lv st shC νC (ovC σ1)) : AW p l e R s m args below meth c Q cells slots G nL pc lv (.ref x :: .ref 2 :: st) shC νC (ovC σ) := by
  subst he
  rw [← ovC_sr mu_6_10] at kk
  exact hg_putr h 10 cf_X6 (by decide) hl (Or.inl rfl) (Or.inl ⟨_, rfl⟩) d (kC_2) kk
theorem gX7_0 (h : Cx p s m args meth c G cc nL own) {index a : Nat} (hl : Cond.fieldLink own index "BasketCap$Row" "known" "Z" ∈ WS) (d : decode cc pc = .ok (.getfield index, 3)) (ha : (shC a).1 = 7) (kk : AW p l e R s m args below meth c Q cells slots G nL (pc + 3) lv (.int (σ.1 a 0) :: st) shC νC (ovC σ)) : AW p l e R s m args below meth c Q cells slots G nL pc lv (.ref a :: st) shC νC (ovC σ) :=
  hg_get h 0 cf_X7 (by decide) hl (v := .int (σ.1 a 0)) rfl d (shC_e ha) kk
theorem pX7_0 (h : Cx p s m args meth c G cc nL own) {index a : Nat} {x : Int32} (hl : Cond.fieldLink own index "BasketCap$Row" "known" "Z" ∈ WS) (d : decode cc pc = .ok (.putfield index, 3)) (ha : (shC a).1 = 7) (hx : x = 0 ∨ x = 1) (he : si σ a 0 x = σ1) (kk : AW p l e R s m args below meth c Q cells slots G nL (pc + 3) lv st shC νC (ovC σ1)) : AW p l e R s m args below meth c Q cells slots G nL pc lv (.int x :: .ref a :: st) shC νC (ovC σ) := by
  subst he
  exact hg_putz h 0 cf_X7 (by decide) hl rfl rfl d (shC_e ha) hx kk
theorem gX7_1 (h : Cx p s m args meth c G cc nL own) {index a : Nat} (hl : Cond.fieldLink own index "BasketCap$Row" "there" "Z" ∈ WS) (d : decode cc pc = .ok (.getfield index, 3)) (ha : (shC a).1 = 7) (kk : AW p l e R s m args below meth c Q cells slots G nL (pc + 3) lv (.int (σ.1 a 1) :: st) shC νC (ovC σ)) : AW p l e R s m args below meth c Q cells slots G nL pc lv (.ref a :: st) shC νC (ovC σ) :=
  hg_get h 1 cf_X7 (by decide) hl (v := .int (σ.1 a 1)) rfl d (shC_e ha) kk
theorem pX7_1 (h : Cx p s m args meth c G cc nL own) {index a : Nat} {x : Int32} (hl : Cond.fieldLink own index "BasketCap$Row" "there" "Z" ∈ WS) (d : decode cc pc = .ok (.putfield index, 3)) (ha : (shC a).1 = 7) (hx : x = 0 ∨ x = 1) (he : si σ a 1 x = σ1) (kk : AW p l e R s m args below meth c Q cells slots G nL (pc + 3) lv st shC νC (ovC σ1)) : AW p l e R s m args below meth c Q cells slots G nL pc lv (.int x :: .ref a :: st) shC νC (ovC σ) := by
  subst he
  exact hg_putz h 1 cf_X7 (by decide) hl rfl rfl d (shC_e ha) hx kk
theorem gX7_2 (h : Cx p s m args meth c G cc nL own) {index a : Nat} (hl : Cond.fieldLink own index "BasketCap$Row" "worth" "I" ∈ WS) (d : decode cc pc = .ok (.getfield index, 3)) (ha : (shC a).1 = 7) (kk : AW p l e R s m args below meth c Q cells slots G nL (pc + 3) lv (.int (σ.1 a 2) :: st) shC νC (ovC σ)) : AW p l e R s m args below meth c Q cells slots G nL pc lv (.ref a :: st) shC νC (ovC σ) :=
  hg_get h 2 cf_X7 (by decide) hl (v := .int (σ.1 a 2)) rfl d (shC_e ha) kk
theorem pX7_2 (h : Cx p s m args meth c G cc nL own) {index a : Nat} {x : Int32} (hl : Cond.fieldLink own index "BasketCap$Row" "worth" "I" ∈ WS) (d : decode cc pc = .ok (.putfield index, 3)) (ha : (shC a).1 = 7) (he : si σ a 2 x = σ1) (kk : AW p l e R s m args below meth c Q cells slots G nL (pc + 3) lv st shC νC (ovC σ1)) : AW p l e R s m args below meth c Q cells slots G nL pc lv (.int x :: .ref a :: st) shC νC (ovC σ) := by
  subst he
  exact hg_puti h 2 cf_X7 (by decide) hl rfl rfl d (shC_e ha) kk
theorem gX7_3 (h : Cx p s m args meth c G cc nL own) {index a : Nat} (hl : Cond.fieldLink own index "BasketCap$Row" "prices" "[I" ∈ WS) (d : decode cc pc = .ok (.getfield index, 3)) (ha : (shC a).1 = 7) (kk : AW p l e R s m args below meth c Q cells slots G nL (pc + 3) lv (.ref (a + 1) :: st) shC νC (ovC σ)) : AW p l e R s m args below meth c Q cells slots G nL pc lv (.ref a :: st) shC νC (ovC σ) :=
  hg_get h 3 cf_X7 (by decide) hl (v := .ref (a + 1)) (fv_ref (Or.inr ⟨_, rfl⟩) (rf_7_3 ha)) d (shC_e ha) kk
theorem gX8_0 (h : Cx p s m args meth c G cc nL own) {index a : Nat} (hl : Cond.fieldLink own index "BasketCap$Search" "services" "I" ∈ WS) (d : decode cc pc = .ok (.getfield index, 3)) (ha : (shC a).1 = 8) (kk : AW p l e R s m args below meth c Q cells slots G nL (pc + 3) lv (.int (σ.1 a 0) :: st) shC νC (ovC σ)) : AW p l e R s m args below meth c Q cells slots G nL pc lv (.ref a :: st) shC νC (ovC σ) :=
  hg_get h 0 cf_X8 (by decide) hl (v := .int (σ.1 a 0)) rfl d (shC_e ha) kk
theorem pX8_0 (h : Cx p s m args meth c G cc nL own) {index a : Nat} {x : Int32} (hl : Cond.fieldLink own index "BasketCap$Search" "services" "I" ∈ WS) (d : decode cc pc = .ok (.putfield index, 3)) (ha : (shC a).1 = 8) (he : si σ a 0 x = σ1) (kk : AW p l e R s m args below meth c Q cells slots G nL (pc + 3) lv st shC νC (ovC σ1)) : AW p l e R s m args below meth c Q cells slots G nL pc lv (.int x :: .ref a :: st) shC νC (ovC σ) := by
  subst he
  exact hg_puti h 0 cf_X8 (by decide) hl rfl rfl d (shC_e ha) kk
theorem gX8_1 (h : Cx p s m args meth c G cc nL own) {index a : Nat} (hl : Cond.fieldLink own index "BasketCap$Search" "lines" "I" ∈ WS) (d : decode cc pc = .ok (.getfield index, 3)) (ha : (shC a).1 = 8) (kk : AW p l e R s m args below meth c Q cells slots G nL (pc + 3) lv (.int (σ.1 a 1) :: st) shC νC (ovC σ)) : AW p l e R s m args below meth c Q cells slots G nL pc lv (.ref a :: st) shC νC (ovC σ) :=
  hg_get h 1 cf_X8 (by decide) hl (v := .int (σ.1 a 1)) rfl d (shC_e ha) kk
theorem pX8_1 (h : Cx p s m args meth c G cc nL own) {index a : Nat} {x : Int32} (hl : Cond.fieldLink own index "BasketCap$Search" "lines" "I" ∈ WS) (d : decode cc pc = .ok (.putfield index, 3)) (ha : (shC a).1 = 8) (he : si σ a 1 x = σ1) (kk : AW p l e R s m args below meth c Q cells slots G nL (pc + 3) lv st shC νC (ovC σ1)) : AW p l e R s m args below meth c Q cells slots G nL pc lv (.int x :: .ref a :: st) shC νC (ovC σ) := by
  subst he
  exact hg_puti h 1 cf_X8 (by decide) hl rfl rfl d (shC_e ha) kk
theorem gX8_2 (h : Cx p s m args meth c G cc nL own) {index a : Nat} (hl : Cond.fieldLink own index "BasketCap$Search" "load" "[I" ∈ WS) (d : decode cc pc = .ok (.getfield index, 3)) (ha : (shC a).1 = 8) (kk : AW p l e R s m args below meth c Q cells slots G nL (pc + 3) lv (.ref (64) :: st) shC νC (ovC σ)) : AW p l e R s m args below meth c Q cells slots G nL pc lv (.ref a :: st) shC νC (ovC σ) :=
  hg_get h 2 cf_X8 (by decide) hl (v := .ref (64)) (fv_ref (Or.inr ⟨_, rfl⟩) (rf_8_2 ha)) d (shC_e ha) kk
theorem gX8_3 (h : Cx p s m args meth c G cc nL own) {index a : Nat} (hl : Cond.fieldLink own index "BasketCap$Search" "room" "[I" ∈ WS) (d : decode cc pc = .ok (.getfield index, 3)) (ha : (shC a).1 = 8) (kk : AW p l e R s m args below meth c Q cells slots G nL (pc + 3) lv (.ref (65) :: st) shC νC (ovC σ)) : AW p l e R s m args below meth c Q cells slots G nL pc lv (.ref a :: st) shC νC (ovC σ) :=
  hg_get h 3 cf_X8 (by decide) hl (v := .ref (65)) (fv_ref (Or.inr ⟨_, rfl⟩) (rf_8_3 ha)) d (shC_e ha) kk
theorem gX8_4 (h : Cx p s m args meth c G cc nL own) {index a : Nat} (hl : Cond.fieldLink own index "BasketCap$Search" "low" "[I" ∈ WS) (d : decode cc pc = .ok (.getfield index, 3)) (ha : (shC a).1 = 8) (kk : AW p l e R s m args below meth c Q cells slots G nL (pc + 3) lv (.ref (66) :: st) shC νC (ovC σ)) : AW p l e R s m args below meth c Q cells slots G nL pc lv (.ref a :: st) shC νC (ovC σ) :=
  hg_get h 4 cf_X8 (by decide) hl (v := .ref (66)) (fv_ref (Or.inr ⟨_, rfl⟩) (rf_8_4 ha)) d (shC_e ha) kk
theorem gX8_5 (h : Cx p s m args meth c G cc nL own) {index a : Nat} (hl : Cond.fieldLink own index "BasketCap$Search" "high" "[I" ∈ WS) (d : decode cc pc = .ok (.getfield index, 3)) (ha : (shC a).1 = 8) (kk : AW p l e R s m args below meth c Q cells slots G nL (pc + 3) lv (.ref (67) :: st) shC νC (ovC σ)) : AW p l e R s m args below meth c Q cells slots G nL pc lv (.ref a :: st) shC νC (ovC σ) :=
  hg_get h 5 cf_X8 (by decide) hl (v := .ref (67)) (fv_ref (Or.inr ⟨_, rfl⟩) (rf_8_5 ha)) d (shC_e ha) kk
theorem gX8_6 (h : Cx p s m args meth c G cc nL own) {index a : Nat} (hl : Cond.fieldLink own index "BasketCap$Search" "stairs" "[I" ∈ WS) (d : decode cc pc = .ok (.getfield index, 3)) (ha : (shC a).1 = 8) (kk : AW p l e R s m args below meth c Q cells slots G nL (pc + 3) lv (.ref (68) :: st) shC νC (ovC σ)) : AW p l e R s m args below meth c Q cells slots G nL pc lv (.ref a :: st) shC νC (ovC σ) :=
  hg_get h 6 cf_X8 (by decide) hl (v := .ref (68)) (fv_ref (Or.inr ⟨_, rfl⟩) (rf_8_6 ha)) d (shC_e ha) kk
theorem gX8_7 (h : Cx p s m args meth c G cc nL own) {index a : Nat} (hl : Cond.fieldLink own index "BasketCap$Search" "rise" "[I" ∈ WS) (d : decode cc pc = .ok (.getfield index, 3)) (ha : (shC a).1 = 8) (kk : AW p l e R s m args below meth c Q cells slots G nL (pc + 3) lv (.ref (69) :: st) shC νC (ovC σ)) : AW p l e R s m args below meth c Q cells slots G nL pc lv (.ref a :: st) shC νC (ovC σ) :=
  hg_get h 7 cf_X8 (by decide) hl (v := .ref (69)) (fv_ref (Or.inr ⟨_, rfl⟩) (rf_8_7 ha)) d (shC_e ha) kk
theorem gX8_8 (h : Cx p s m args meth c G cc nL own) {index a : Nat} (hl : Cond.fieldLink own index "BasketCap$Search" "worth" "[I" ∈ WS) (d : decode cc pc = .ok (.getfield index, 3)) (ha : (shC a).1 = 8) (kk : AW p l e R s m args below meth c Q cells slots G nL (pc + 3) lv (.ref (70) :: st) shC νC (ovC σ)) : AW p l e R s m args below meth c Q cells slots G nL pc lv (.ref a :: st) shC νC (ovC σ) :=
  hg_get h 8 cf_X8 (by decide) hl (v := .ref (70)) (fv_ref (Or.inr ⟨_, rfl⟩) (rf_8_8 ha)) d (shC_e ha) kk
theorem gX8_9 (h : Cx p s m args meth c G cc nL own) {index a : Nat} (hl : Cond.fieldLink own index "BasketCap$Search" "under" "[I" ∈ WS) (d : decode cc pc = .ok (.getfield index, 3)) (ha : (shC a).1 = 8) (kk : AW p l e R s m args below meth c Q cells slots G nL (pc + 3) lv (.ref (71) :: st) shC νC (ovC σ)) : AW p l e R s m args below meth c Q cells slots G nL pc lv (.ref a :: st) shC νC (ovC σ) :=
  hg_get h 9 cf_X8 (by decide) hl (v := .ref (71)) (fv_ref (Or.inr ⟨_, rfl⟩) (rf_8_9 ha)) d (shC_e ha) kk
theorem gX8_10 (h : Cx p s m args meth c G cc nL own) {index a : Nat} (hl : Cond.fieldLink own index "BasketCap$Search" "pick" "[I" ∈ WS) (d : decode cc pc = .ok (.getfield index, 3)) (ha : (shC a).1 = 8) (kk : AW p l e R s m args below meth c Q cells slots G nL (pc + 3) lv (.ref (72) :: st) shC νC (ovC σ)) : AW p l e R s m args below meth c Q cells slots G nL pc lv (.ref a :: st) shC νC (ovC σ) :=
  hg_get h 10 cf_X8 (by decide) hl (v := .ref (72)) (fv_ref (Or.inr ⟨_, rfl⟩) (rf_8_10 ha)) d (shC_e ha) kk
theorem gX8_11 (h : Cx p s m args meth c G cc nL own) {index a : Nat} (hl : Cond.fieldLink own index "BasketCap$Search" "found" "[I" ∈ WS) (d : decode cc pc = .ok (.getfield index, 3)) (ha : (shC a).1 = 8) (kk : AW p l e R s m args below meth c Q cells slots G nL (pc + 3) lv (.ref (73) :: st) shC νC (ovC σ)) : AW p l e R s m args below meth c Q cells slots G nL pc lv (.ref a :: st) shC νC (ovC σ) :=
  hg_get h 11 cf_X8 (by decide) hl (v := .ref (73)) (fv_ref (Or.inr ⟨_, rfl⟩) (rf_8_11 ha)) d (shC_e ha) kk
theorem gX8_12 (h : Cx p s m args meth c G cc nL own) {index a : Nat} (hl : Cond.fieldLink own index "BasketCap$Search" "rest" "[I" ∈ WS) (d : decode cc pc = .ok (.getfield index, 3)) (ha : (shC a).1 = 8) (kk : AW p l e R s m args below meth c Q cells slots G nL (pc + 3) lv (.ref (74) :: st) shC νC (ovC σ)) : AW p l e R s m args below meth c Q cells slots G nL pc lv (.ref a :: st) shC νC (ovC σ) :=
  hg_get h 12 cf_X8 (by decide) hl (v := .ref (74)) (fv_ref (Or.inr ⟨_, rfl⟩) (rf_8_12 ha)) d (shC_e ha) kk
theorem gX8_13 (h : Cx p s m args meth c G cc nL own) {index a : Nat} (hl : Cond.fieldLink own index "BasketCap$Search" "toll" "I" ∈ WS) (d : decode cc pc = .ok (.getfield index, 3)) (ha : (shC a).1 = 8) (kk : AW p l e R s m args below meth c Q cells slots G nL (pc + 3) lv (.int (σ.1 a 13) :: st) shC νC (ovC σ)) : AW p l e R s m args below meth c Q cells slots G nL pc lv (.ref a :: st) shC νC (ovC σ) :=
  hg_get h 13 cf_X8 (by decide) hl (v := .int (σ.1 a 13)) rfl d (shC_e ha) kk
theorem pX8_13 (h : Cx p s m args meth c G cc nL own) {index a : Nat} {x : Int32} (hl : Cond.fieldLink own index "BasketCap$Search" "toll" "I" ∈ WS) (d : decode cc pc = .ok (.putfield index, 3)) (ha : (shC a).1 = 8) (he : si σ a 13 x = σ1) (kk : AW p l e R s m args below meth c Q cells slots G nL (pc + 3) lv st shC νC (ovC σ1)) : AW p l e R s m args below meth c Q cells slots G nL pc lv (.int x :: .ref a :: st) shC νC (ovC σ) := by
  subst he
  exact hg_puti h 13 cf_X8 (by decide) hl rfl rfl d (shC_e ha) kk
theorem gX8_14 (h : Cx p s m args meth c G cc nL own) {index a : Nat} (hl : Cond.fieldLink own index "BasketCap$Search" "greatest" "I" ∈ WS) (d : decode cc pc = .ok (.getfield index, 3)) (ha : (shC a).1 = 8) (kk : AW p l e R s m args below meth c Q cells slots G nL (pc + 3) lv (.int (σ.1 a 14) :: st) shC νC (ovC σ)) : AW p l e R s m args below meth c Q cells slots G nL pc lv (.ref a :: st) shC νC (ovC σ) :=
  hg_get h 14 cf_X8 (by decide) hl (v := .int (σ.1 a 14)) rfl d (shC_e ha) kk
theorem pX8_14 (h : Cx p s m args meth c G cc nL own) {index a : Nat} {x : Int32} (hl : Cond.fieldLink own index "BasketCap$Search" "greatest" "I" ∈ WS) (d : decode cc pc = .ok (.putfield index, 3)) (ha : (shC a).1 = 8) (he : si σ a 14 x = σ1) (kk : AW p l e R s m args below meth c Q cells slots G nL (pc + 3) lv st shC νC (ovC σ1)) : AW p l e R s m args below meth c Q cells slots G nL pc lv (.int x :: .ref a :: st) shC νC (ovC σ) := by
  subst he
  exact hg_puti h 14 cf_X8 (by decide) hl rfl rfl d (shC_e ha) kk
theorem gX9_0 (h : Cx p s m args meth c G cc nL own) {index a : Nat} (hl : Cond.fieldLink own index "BasketCap$Told" "services" "I" ∈ WS) (d : decode cc pc = .ok (.getfield index, 3)) (ha : (shC a).1 = 9) (kk : AW p l e R s m args below meth c Q cells slots G nL (pc + 3) lv (.int (σ.1 a 0) :: st) shC νC (ovC σ)) : AW p l e R s m args below meth c Q cells slots G nL pc lv (.ref a :: st) shC νC (ovC σ) :=
  hg_get h 0 cf_X9 (by decide) hl (v := .int (σ.1 a 0)) rfl d (shC_e ha) kk
theorem pX9_0 (h : Cx p s m args meth c G cc nL own) {index a : Nat} {x : Int32} (hl : Cond.fieldLink own index "BasketCap$Told" "services" "I" ∈ WS) (d : decode cc pc = .ok (.putfield index, 3)) (ha : (shC a).1 = 9) (he : si σ a 0 x = σ1) (kk : AW p l e R s m args below meth c Q cells slots G nL (pc + 3) lv st shC νC (ovC σ1)) : AW p l e R s m args below meth c Q cells slots G nL pc lv (.int x :: .ref a :: st) shC νC (ovC σ) := by
  subst he
  exact hg_puti h 0 cf_X9 (by decide) hl rfl rfl d (shC_e ha) kk
theorem gX9_1 (h : Cx p s m args meth c G cc nL own) {index a : Nat} (hl : Cond.fieldLink own index "BasketCap$Told" "buyers" "I" ∈ WS) (d : decode cc pc = .ok (.getfield index, 3)) (ha : (shC a).1 = 9) (kk : AW p l e R s m args below meth c Q cells slots G nL (pc + 3) lv (.int (σ.1 a 1) :: st) shC νC (ovC σ)) : AW p l e R s m args below meth c Q cells slots G nL pc lv (.ref a :: st) shC νC (ovC σ) :=
  hg_get h 1 cf_X9 (by decide) hl (v := .int (σ.1 a 1)) rfl d (shC_e ha) kk
theorem pX9_1 (h : Cx p s m args meth c G cc nL own) {index a : Nat} {x : Int32} (hl : Cond.fieldLink own index "BasketCap$Told" "buyers" "I" ∈ WS) (d : decode cc pc = .ok (.putfield index, 3)) (ha : (shC a).1 = 9) (he : si σ a 1 x = σ1) (kk : AW p l e R s m args below meth c Q cells slots G nL (pc + 3) lv st shC νC (ovC σ1)) : AW p l e R s m args below meth c Q cells slots G nL pc lv (.int x :: .ref a :: st) shC νC (ovC σ) := by
  subst he
  exact hg_puti h 1 cf_X9 (by decide) hl rfl rfl d (shC_e ha) kk
theorem gX9_2 (h : Cx p s m args meth c G cc nL own) {index a : Nat} (hl : Cond.fieldLink own index "BasketCap$Told" "names" "[J" ∈ WS) (d : decode cc pc = .ok (.getfield index, 3)) (ha : (shC a).1 = 9) (kk : AW p l e R s m args below meth c Q cells slots G nL (pc + 3) lv (.ref (a + 1) :: st) shC νC (ovC σ)) : AW p l e R s m args below meth c Q cells slots G nL pc lv (.ref a :: st) shC νC (ovC σ) :=
  hg_get h 2 cf_X9 (by decide) hl (v := .ref (a + 1)) (fv_ref (Or.inr ⟨_, rfl⟩) (rf_9_2 ha)) d (shC_e ha) kk
theorem gX9_3 (h : Cx p s m args meth c G cc nL own) {index a : Nat} (hl : Cond.fieldLink own index "BasketCap$Told" "values" "[I" ∈ WS) (d : decode cc pc = .ok (.getfield index, 3)) (ha : (shC a).1 = 9) (kk : AW p l e R s m args below meth c Q cells slots G nL (pc + 3) lv (.ref (a + 2) :: st) shC νC (ovC σ)) : AW p l e R s m args below meth c Q cells slots G nL pc lv (.ref a :: st) shC νC (ovC σ) :=
  hg_get h 3 cf_X9 (by decide) hl (v := .ref (a + 2)) (fv_ref (Or.inr ⟨_, rfl⟩) (rf_9_3 ha)) d (shC_e ha) kk
theorem gX9_4 (h : Cx p s m args meth c G cc nL own) {index a : Nat} (hl : Cond.fieldLink own index "BasketCap$Told" "wants" "[I" ∈ WS) (d : decode cc pc = .ok (.getfield index, 3)) (ha : (shC a).1 = 9) (kk : AW p l e R s m args below meth c Q cells slots G nL (pc + 3) lv (.ref (a + 3) :: st) shC νC (ovC σ)) : AW p l e R s m args below meth c Q cells slots G nL pc lv (.ref a :: st) shC νC (ovC σ) :=
  hg_get h 4 cf_X9 (by decide) hl (v := .ref (a + 3)) (fv_ref (Or.inr ⟨_, rfl⟩) (rf_9_4 ha)) d (shC_e ha) kk
theorem gX9_5 (h : Cx p s m args meth c G cc nL own) {index a : Nat} (hl : Cond.fieldLink own index "BasketCap$Told" "rules" "[I" ∈ WS) (d : decode cc pc = .ok (.getfield index, 3)) (ha : (shC a).1 = 9) (kk : AW p l e R s m args below meth c Q cells slots G nL (pc + 3) lv (.ref (a + 4) :: st) shC νC (ovC σ)) : AW p l e R s m args below meth c Q cells slots G nL pc lv (.ref a :: st) shC νC (ovC σ) :=
  hg_get h 5 cf_X9 (by decide) hl (v := .ref (a + 4)) (fv_ref (Or.inr ⟨_, rfl⟩) (rf_9_5 ha)) d (shC_e ha) kk
theorem gX9_6 (h : Cx p s m args meth c G cc nL own) {index a : Nat} (hl : Cond.fieldLink own index "BasketCap$Told" "boughtAt" "[I" ∈ WS) (d : decode cc pc = .ok (.getfield index, 3)) (ha : (shC a).1 = 9) (kk : AW p l e R s m args below meth c Q cells slots G nL (pc + 3) lv (.ref (a + 5) :: st) shC νC (ovC σ)) : AW p l e R s m args below meth c Q cells slots G nL pc lv (.ref a :: st) shC νC (ovC σ) :=
  hg_get h 6 cf_X9 (by decide) hl (v := .ref (a + 5)) (fv_ref (Or.inr ⟨_, rfl⟩) (rf_9_6 ha)) d (shC_e ha) kk
theorem gX9_7 (h : Cx p s m args meth c G cc nL own) {index a : Nat} (hl : Cond.fieldLink own index "BasketCap$Told" "profitAt" "[I" ∈ WS) (d : decode cc pc = .ok (.getfield index, 3)) (ha : (shC a).1 = 9) (kk : AW p l e R s m args below meth c Q cells slots G nL (pc + 3) lv (.ref (a + 6) :: st) shC νC (ovC σ)) : AW p l e R s m args below meth c Q cells slots G nL pc lv (.ref a :: st) shC νC (ovC σ) :=
  hg_get h 7 cf_X9 (by decide) hl (v := .ref (a + 6)) (fv_ref (Or.inr ⟨_, rfl⟩) (rf_9_7 ha)) d (shC_e ha) kk
theorem gX9_8 (h : Cx p s m args meth c G cc nL own) {index a : Nat} (hl : Cond.fieldLink own index "BasketCap$Told" "goodAt" "[I" ∈ WS) (d : decode cc pc = .ok (.getfield index, 3)) (ha : (shC a).1 = 9) (kk : AW p l e R s m args below meth c Q cells slots G nL (pc + 3) lv (.ref (a + 7) :: st) shC νC (ovC σ)) : AW p l e R s m args below meth c Q cells slots G nL pc lv (.ref a :: st) shC νC (ovC σ) :=
  hg_get h 8 cf_X9 (by decide) hl (v := .ref (a + 7)) (fv_ref (Or.inr ⟨_, rfl⟩) (rf_9_8 ha)) d (shC_e ha) kk
theorem gX10_0 (h : Cx p s m args meth c G cc nL own) {index a : Nat} (hl : Cond.fieldLink own index "BasketCap$Year" "number" "I" ∈ WS) (d : decode cc pc = .ok (.getfield index, 3)) (ha : (shC a).1 = 10) (kk : AW p l e R s m args below meth c Q cells slots G nL (pc + 3) lv (.int (σ.1 a 0) :: st) shC νC (ovC σ)) : AW p l e R s m args below meth c Q cells slots G nL pc lv (.ref a :: st) shC νC (ovC σ) :=
  hg_get h 0 cf_X10 (by decide) hl (v := .int (σ.1 a 0)) rfl d (shC_e ha) kk
theorem pX10_0 (h : Cx p s m args meth c G cc nL own) {index a : Nat} {x : Int32} (hl : Cond.fieldLink own index "BasketCap$Year" "number" "I" ∈ WS) (d : decode cc pc = .ok (.putfield index, 3)) (ha : (shC a).1 = 10) (he : si σ a 0 x = σ1) (kk : AW p l e R s m args below meth c Q cells slots G nL (pc + 3) lv st shC νC (ovC σ1)) : AW p l e R s m args below meth c Q cells slots G nL pc lv (.int x :: .ref a :: st) shC νC (ovC σ) := by
  subst he
  exact hg_puti h 0 cf_X10 (by decide) hl rfl rfl d (shC_e ha) kk
theorem gX10_1 (h : Cx p s m args meth c G cc nL own) {index a : Nat} (hl : Cond.fieldLink own index "BasketCap$Year" "brought" "I" ∈ WS) (d : decode cc pc = .ok (.getfield index, 3)) (ha : (shC a).1 = 10) (kk : AW p l e R s m args below meth c Q cells slots G nL (pc + 3) lv (.int (σ.1 a 1) :: st) shC νC (ovC σ)) : AW p l e R s m args below meth c Q cells slots G nL pc lv (.ref a :: st) shC νC (ovC σ) :=
  hg_get h 1 cf_X10 (by decide) hl (v := .int (σ.1 a 1)) rfl d (shC_e ha) kk
theorem pX10_1 (h : Cx p s m args meth c G cc nL own) {index a : Nat} {x : Int32} (hl : Cond.fieldLink own index "BasketCap$Year" "brought" "I" ∈ WS) (d : decode cc pc = .ok (.putfield index, 3)) (ha : (shC a).1 = 10) (he : si σ a 1 x = σ1) (kk : AW p l e R s m args below meth c Q cells slots G nL (pc + 3) lv st shC νC (ovC σ1)) : AW p l e R s m args below meth c Q cells slots G nL pc lv (.int x :: .ref a :: st) shC νC (ovC σ) := by
  subst he
  exact hg_puti h 1 cf_X10 (by decide) hl rfl rfl d (shC_e ha) kk
theorem gX10_2 (h : Cx p s m args meth c G cc nL own) {index a : Nat} (hl : Cond.fieldLink own index "BasketCap$Year" "prices" "[I" ∈ WS) (d : decode cc pc = .ok (.getfield index, 3)) (ha : (shC a).1 = 10) (kk : AW p l e R s m args below meth c Q cells slots G nL (pc + 3) lv (.ref (a + 1) :: st) shC νC (ovC σ)) : AW p l e R s m args below meth c Q cells slots G nL pc lv (.ref a :: st) shC νC (ovC σ) :=
  hg_get h 2 cf_X10 (by decide) hl (v := .ref (a + 1)) (fv_ref (Or.inr ⟨_, rfl⟩) (rf_10_2 ha)) d (shC_e ha) kk
theorem gX10_3 (h : Cx p s m args meth c G cc nL own) {index a : Nat} (hl : Cond.fieldLink own index "BasketCap$Year" "fresh" "[I" ∈ WS) (d : decode cc pc = .ok (.getfield index, 3)) (ha : (shC a).1 = 10) (kk : AW p l e R s m args below meth c Q cells slots G nL (pc + 3) lv (.ref (a + 2) :: st) shC νC (ovC σ)) : AW p l e R s m args below meth c Q cells slots G nL pc lv (.ref a :: st) shC νC (ovC σ) :=
  hg_get h 3 cf_X10 (by decide) hl (v := .ref (a + 2)) (fv_ref (Or.inr ⟨_, rfl⟩) (rf_10_3 ha)) d (shC_e ha) kk
theorem gX10_4 (h : Cx p s m args meth c G cc nL own) {index a : Nat} (hl : Cond.fieldLink own index "BasketCap$Year" "grade" "[I" ∈ WS) (d : decode cc pc = .ok (.getfield index, 3)) (ha : (shC a).1 = 10) (kk : AW p l e R s m args below meth c Q cells slots G nL (pc + 3) lv (.ref (a + 3) :: st) shC νC (ovC σ)) : AW p l e R s m args below meth c Q cells slots G nL pc lv (.ref a :: st) shC νC (ovC σ) :=
  hg_get h 4 cf_X10 (by decide) hl (v := .ref (a + 3)) (fv_ref (Or.inr ⟨_, rfl⟩) (rf_10_4 ha)) d (shC_e ha) kk
theorem gX10_5 (h : Cx p s m args meth c G cc nL own) {index a : Nat} (hl : Cond.fieldLink own index "BasketCap$Year" "rules" "[I" ∈ WS) (d : decode cc pc = .ok (.getfield index, 3)) (ha : (shC a).1 = 10) (kk : AW p l e R s m args below meth c Q cells slots G nL (pc + 3) lv (.ref (a + 4) :: st) shC νC (ovC σ)) : AW p l e R s m args below meth c Q cells slots G nL pc lv (.ref a :: st) shC νC (ovC σ) :=
  hg_get h 5 cf_X10 (by decide) hl (v := .ref (a + 4)) (fv_ref (Or.inr ⟨_, rfl⟩) (rf_10_5 ha)) d (shC_e ha) kk
theorem gX11_0 (h : Cx p s m args meth c G cc nL own) {index a : Nat} (hl : Cond.fieldLink own index "BasketCap" "tape" "[I" ∈ WS) (d : decode cc pc = .ok (.getfield index, 3)) (ha : (shC a).1 = 11) (kk : AW p l e R s m args below meth c Q cells slots G nL (pc + 3) lv (.ref (1) :: st) shC νC (ovC σ)) : AW p l e R s m args below meth c Q cells slots G nL pc lv (.ref a :: st) shC νC (ovC σ) :=
  hg_get h 0 cf_X11 (by decide) hl (v := .ref (1)) (fv_ref (Or.inr ⟨_, rfl⟩) (rf_11_0 ha)) d (shC_e ha) kk
theorem gX11_1 (h : Cx p s m args meth c G cc nL own) {index a : Nat} (hl : Cond.fieldLink own index "BasketCap" "reader" "LBasketCap$Reader;" ∈ WS) (d : decode cc pc = .ok (.getfield index, 3)) (ha : (shC a).1 = 11) (kk : AW p l e R s m args below meth c Q cells slots G nL (pc + 3) lv (.ref (2) :: st) shC νC (ovC σ)) : AW p l e R s m args below meth c Q cells slots G nL pc lv (.ref a :: st) shC νC (ovC σ) :=
  hg_get h 1 cf_X11 (by decide) hl (v := .ref (2)) (fv_ref (Or.inl ⟨_, rfl⟩) (rf_11_1 ha)) d (shC_e ha) kk
theorem gX11_2 (h : Cx p s m args meth c G cc nL own) {index a : Nat} (hl : Cond.fieldLink own index "BasketCap" "now" "LBasketCap$Year;" ∈ WS) (d : decode cc pc = .ok (.getfield index, 3)) (ha : (shC a).1 = 11) (kk : AW p l e R s m args below meth c Q cells slots G nL (pc + 3) lv (.ref (3) :: st) shC νC (ovC σ)) : AW p l e R s m args below meth c Q cells slots G nL pc lv (.ref a :: st) shC νC (ovC σ) :=
  hg_get h 2 cf_X11 (by decide) hl (v := .ref (3)) (fv_ref (Or.inl ⟨_, rfl⟩) (rf_11_2 ha)) d (shC_e ha) kk
theorem gX11_3 (h : Cx p s m args meth c G cc nL own) {index a : Nat} (hl : Cond.fieldLink own index "BasketCap" "ended" "LBasketCap$Book;" ∈ WS) (d : decode cc pc = .ok (.getfield index, 3)) (ha : (shC a).1 = 11) (kk : AW p l e R s m args below meth c Q cells slots G nL (pc + 3) lv (.ref (8) :: st) shC νC (ovC σ)) : AW p l e R s m args below meth c Q cells slots G nL pc lv (.ref a :: st) shC νC (ovC σ) :=
  hg_get h 3 cf_X11 (by decide) hl (v := .ref (8)) (fv_ref (Or.inl ⟨_, rfl⟩) (rf_11_3 ha)) d (shC_e ha) kk
theorem gX11_4 (h : Cx p s m args meth c G cc nL own) {index a : Nat} (hl : Cond.fieldLink own index "BasketCap" "past" "LBasketCap$Past;" ∈ WS) (d : decode cc pc = .ok (.getfield index, 3)) (ha : (shC a).1 = 11) (kk : AW p l e R s m args below meth c Q cells slots G nL (pc + 3) lv (.ref (10) :: st) shC νC (ovC σ)) : AW p l e R s m args below meth c Q cells slots G nL pc lv (.ref a :: st) shC νC (ovC σ) :=
  hg_get h 4 cf_X11 (by decide) hl (v := .ref (10)) (fv_ref (Or.inl ⟨_, rfl⟩) (rf_11_4 ha)) d (shC_e ha) kk
theorem gX11_5 (h : Cx p s m args meth c G cc nL own) {index a : Nat} (hl : Cond.fieldLink own index "BasketCap" "images" "[LBasketCap$Image;" ∈ WS) (d : decode cc pc = .ok (.getfield index, 3)) (ha : (shC a).1 = 11) (kk : AW p l e R s m args below meth c Q cells slots G nL (pc + 3) lv (.ref (62) :: st) shC νC (ovC σ)) : AW p l e R s m args below meth c Q cells slots G nL pc lv (.ref a :: st) shC νC (ovC σ) :=
  hg_get h 5 cf_X11 (by decide) hl (v := .ref (62)) (fv_ref (Or.inr ⟨_, rfl⟩) (rf_11_5 ha)) d (shC_e ha) kk
theorem gX11_6 (h : Cx p s m args meth c G cc nL own) {index a : Nat} (hl : Cond.fieldLink own index "BasketCap" "search" "LBasketCap$Search;" ∈ WS) (d : decode cc pc = .ok (.getfield index, 3)) (ha : (shC a).1 = 11) (kk : AW p l e R s m args below meth c Q cells slots G nL (pc + 3) lv (.ref (63) :: st) shC νC (ovC σ)) : AW p l e R s m args below meth c Q cells slots G nL pc lv (.ref a :: st) shC νC (ovC σ) :=
  hg_get h 6 cf_X11 (by decide) hl (v := .ref (63)) (fv_ref (Or.inl ⟨_, rfl⟩) (rf_11_6 ha)) d (shC_e ha) kk
theorem gX11_7 (h : Cx p s m args meth c G cc nL own) {index a : Nat} (hl : Cond.fieldLink own index "BasketCap" "finder" "LBasketCap$Finder;" ∈ WS) (d : decode cc pc = .ok (.getfield index, 3)) (ha : (shC a).1 = 11) (kk : AW p l e R s m args below meth c Q cells slots G nL (pc + 3) lv (.ref (75) :: st) shC νC (ovC σ)) : AW p l e R s m args below meth c Q cells slots G nL pc lv (.ref a :: st) shC νC (ovC σ) :=
  hg_get h 7 cf_X11 (by decide) hl (v := .ref (75)) (fv_ref (Or.inl ⟨_, rfl⟩) (rf_11_7 ha)) d (shC_e ha) kk
theorem gX11_8 (h : Cx p s m args meth c G cc nL own) {index a : Nat} (hl : Cond.fieldLink own index "BasketCap" "paper" "LBasketCap$Paper;" ∈ WS) (d : decode cc pc = .ok (.getfield index, 3)) (ha : (shC a).1 = 11) (kk : AW p l e R s m args below meth c Q cells slots G nL (pc + 3) lv (.ref (84) :: st) shC νC (ovC σ)) : AW p l e R s m args below meth c Q cells slots G nL pc lv (.ref a :: st) shC νC (ovC σ) :=
  hg_get h 8 cf_X11 (by decide) hl (v := .ref (84)) (fv_ref (Or.inl ⟨_, rfl⟩) (rf_11_8 ha)) d (shC_e ha) kk
theorem gX11_9 (h : Cx p s m args meth c G cc nL own) {index a : Nat} (hl : Cond.fieldLink own index "BasketCap" "deal" "LBasketCap$Deal;" ∈ WS) (d : decode cc pc = .ok (.getfield index, 3)) (ha : (shC a).1 = 11) (kk : AW p l e R s m args below meth c Q cells slots G nL (pc + 3) lv (.ref (99) :: st) shC νC (ovC σ)) : AW p l e R s m args below meth c Q cells slots G nL pc lv (.ref a :: st) shC νC (ovC σ) :=
  hg_get h 9 cf_X11 (by decide) hl (v := .ref (99)) (fv_ref (Or.inl ⟨_, rfl⟩) (rf_11_9 ha)) d (shC_e ha) kk
theorem gX11_10 (h : Cx p s m args meth c G cc nL own) {index a : Nat} (hl : Cond.fieldLink own index "BasketCap" "written" "[I" ∈ WS) (d : decode cc pc = .ok (.getfield index, 3)) (ha : (shC a).1 = 11) (kk : AW p l e R s m args below meth c Q cells slots G nL (pc + 3) lv (.ref (101) :: st) shC νC (ovC σ)) : AW p l e R s m args below meth c Q cells slots G nL pc lv (.ref a :: st) shC νC (ovC σ) :=
  hg_get h 10 cf_X11 (by decide) hl (v := .ref (101)) (fv_ref (Or.inr ⟨_, rfl⟩) (rf_11_10 ha)) d (shC_e ha) kk
theorem gX11_11 (h : Cx p s m args meth c G cc nL own) {index x : Nat} (hl : Cond.fieldLink own index "BasketCap" "told" "LBasketCap$Told;" ∈ WS) (d : decode cc pc = .ok (.getfield index, 3)) (hv : σ.2.2 0 11 = some x) (kk : AW p l e R s m args below meth c Q cells slots G nL (pc + 3) lv (.ref x :: st) shC νC (ovC σ)) : AW p l e R s m args below meth c Q cells slots G nL pc lv (.ref 0 :: st) shC νC (ovC σ) :=
  hg_get h 11 cf_X11 (by decide) hl (v := .ref x) (fv_ref (Or.inl ⟨_, rfl⟩) (show (rfC 0 11).or (σ.2.2 0 11) = some x by rw [mu_11_11]; exact hv)) d (kC_0) kk
theorem pX11_11 (h : Cx p s m args meth c G cc nL own) {index x : Nat} (hl : Cond.fieldLink own index "BasketCap" "told" "LBasketCap$Told;" ∈ WS) (d : decode cc pc = .ok (.putfield index, 3)) (he : sr σ 0 11 (some x) = σ1) (kk : AW p l e R s m args below meth c Q cells slots G nL (pc + 3) lv st shC νC (ovC σ1)) : AW p l e R s m args below meth c Q cells slots G nL pc lv (.ref x :: .ref 0 :: st) shC νC (ovC σ) := by
  subst he
  rw [← ovC_sr mu_11_11] at kk
  exact hg_putr h 11 cf_X11 (by decide) hl (Or.inl rfl) (Or.inl ⟨_, rfl⟩) d (kC_0) kk
theorem gX11_12 (h : Cx p s m args meth c G cc nL own) {index x : Nat} (hl : Cond.fieldLink own index "BasketCap" "spare" "LBasketCap$Told;" ∈ WS) (d : decode cc pc = .ok (.getfield index, 3)) (hv : σ.2.2 0 12 = some x) (kk : AW p l e R s m args below meth c Q cells slots G nL (pc + 3) lv (.ref x :: st) shC νC (ovC σ)) : AW p l e R s m args below meth c Q cells slots G nL pc lv (.ref 0 :: st) shC νC (ovC σ) :=
  hg_get h 12 cf_X11 (by decide) hl (v := .ref x) (fv_ref (Or.inl ⟨_, rfl⟩) (show (rfC 0 12).or (σ.2.2 0 12) = some x by rw [mu_11_12]; exact hv)) d (kC_0) kk
theorem pX11_12 (h : Cx p s m args meth c G cc nL own) {index x : Nat} (hl : Cond.fieldLink own index "BasketCap" "spare" "LBasketCap$Told;" ∈ WS) (d : decode cc pc = .ok (.putfield index, 3)) (he : sr σ 0 12 (some x) = σ1) (kk : AW p l e R s m args below meth c Q cells slots G nL (pc + 3) lv st shC νC (ovC σ1)) : AW p l e R s m args below meth c Q cells slots G nL pc lv (.ref x :: .ref 0 :: st) shC νC (ovC σ) := by
  subst he
  rw [← ovC_sr mu_11_12] at kk
  exact hg_putr h 12 cf_X11 (by decide) hl (Or.inl rfl) (Or.inl ⟨_, rfl⟩) d (kC_0) kk
theorem gX11_13 (h : Cx p s m args meth c G cc nL own) {index a : Nat} (hl : Cond.fieldLink own index "BasketCap" "loaded" "Z" ∈ WS) (d : decode cc pc = .ok (.getfield index, 3)) (ha : (shC a).1 = 11) (kk : AW p l e R s m args below meth c Q cells slots G nL (pc + 3) lv (.int (σ.1 a 13) :: st) shC νC (ovC σ)) : AW p l e R s m args below meth c Q cells slots G nL pc lv (.ref a :: st) shC νC (ovC σ) :=
  hg_get h 13 cf_X11 (by decide) hl (v := .int (σ.1 a 13)) rfl d (shC_e ha) kk
theorem pX11_13 (h : Cx p s m args meth c G cc nL own) {index a : Nat} {x : Int32} (hl : Cond.fieldLink own index "BasketCap" "loaded" "Z" ∈ WS) (d : decode cc pc = .ok (.putfield index, 3)) (ha : (shC a).1 = 11) (hx : x = 0 ∨ x = 1) (he : si σ a 13 x = σ1) (kk : AW p l e R s m args below meth c Q cells slots G nL (pc + 3) lv st shC νC (ovC σ1)) : AW p l e R s m args below meth c Q cells slots G nL pc lv (.int x :: .ref a :: st) shC νC (ovC σ) := by
  subst he
  exact hg_putz h 13 cf_X11 (by decide) hl rfl rfl d (shC_e ha) hx kk
theorem gX11_14 (h : Cx p s m args meth c G cc nL own) {index a : Nat} (hl : Cond.fieldLink own index "BasketCap" "tapeLength" "I" ∈ WS) (d : decode cc pc = .ok (.getfield index, 3)) (ha : (shC a).1 = 11) (kk : AW p l e R s m args below meth c Q cells slots G nL (pc + 3) lv (.int (σ.1 a 14) :: st) shC νC (ovC σ)) : AW p l e R s m args below meth c Q cells slots G nL pc lv (.ref a :: st) shC νC (ovC σ) :=
  hg_get h 14 cf_X11 (by decide) hl (v := .int (σ.1 a 14)) rfl d (shC_e ha) kk
theorem pX11_14 (h : Cx p s m args meth c G cc nL own) {index a : Nat} {x : Int32} (hl : Cond.fieldLink own index "BasketCap" "tapeLength" "I" ∈ WS) (d : decode cc pc = .ok (.putfield index, 3)) (ha : (shC a).1 = 11) (he : si σ a 14 x = σ1) (kk : AW p l e R s m args below meth c Q cells slots G nL (pc + 3) lv st shC νC (ovC σ1)) : AW p l e R s m args below meth c Q cells slots G nL pc lv (.int x :: .ref a :: st) shC νC (ovC σ) := by
  subst he
  exact hg_puti h 14 cf_X11 (by decide) hl rfl rfl d (shC_e ha) kk
theorem gX11_15 (h : Cx p s m args meth c G cc nL own) {index a : Nat} (hl : Cond.fieldLink own index "BasketCap" "writtenLength" "I" ∈ WS) (d : decode cc pc = .ok (.getfield index, 3)) (ha : (shC a).1 = 11) (kk : AW p l e R s m args below meth c Q cells slots G nL (pc + 3) lv (.int (σ.1 a 15) :: st) shC νC (ovC σ)) : AW p l e R s m args below meth c Q cells slots G nL pc lv (.ref a :: st) shC νC (ovC σ) :=
  hg_get h 15 cf_X11 (by decide) hl (v := .int (σ.1 a 15)) rfl d (shC_e ha) kk
theorem pX11_15 (h : Cx p s m args meth c G cc nL own) {index a : Nat} {x : Int32} (hl : Cond.fieldLink own index "BasketCap" "writtenLength" "I" ∈ WS) (d : decode cc pc = .ok (.putfield index, 3)) (ha : (shC a).1 = 11) (he : si σ a 15 x = σ1) (kk : AW p l e R s m args below meth c Q cells slots G nL (pc + 3) lv st shC νC (ovC σ1)) : AW p l e R s m args below meth c Q cells slots G nL pc lv (.int x :: .ref a :: st) shC νC (ovC σ) := by
  subst he
  exact hg_puti h 15 cf_X11 (by decide) hl rfl rfl d (shC_e ha) kk
theorem gX11_16 (h : Cx p s m args meth c G cc nL own) {index a : Nat} (hl : Cond.fieldLink own index "BasketCap" "faultNow" "I" ∈ WS) (d : decode cc pc = .ok (.getfield index, 3)) (ha : (shC a).1 = 11) (kk : AW p l e R s m args below meth c Q cells slots G nL (pc + 3) lv (.int (σ.1 a 16) :: st) shC νC (ovC σ)) : AW p l e R s m args below meth c Q cells slots G nL pc lv (.ref a :: st) shC νC (ovC σ) :=
  hg_get h 16 cf_X11 (by decide) hl (v := .int (σ.1 a 16)) rfl d (shC_e ha) kk
theorem pX11_16 (h : Cx p s m args meth c G cc nL own) {index a : Nat} {x : Int32} (hl : Cond.fieldLink own index "BasketCap" "faultNow" "I" ∈ WS) (d : decode cc pc = .ok (.putfield index, 3)) (ha : (shC a).1 = 11) (he : si σ a 16 x = σ1) (kk : AW p l e R s m args below meth c Q cells slots G nL (pc + 3) lv st shC νC (ovC σ1)) : AW p l e R s m args below meth c Q cells slots G nL pc lv (.int x :: .ref a :: st) shC νC (ovC σ) := by
  subst he
  exact hg_puti h 16 cf_X11 (by decide) hl rfl rfl d (shC_e ha) kk
theorem gX11_17 (h : Cx p s m args meth c G cc nL own) {index a : Nat} (hl : Cond.fieldLink own index "BasketCap" "placeNow" "I" ∈ WS) (d : decode cc pc = .ok (.getfield index, 3)) (ha : (shC a).1 = 11) (kk : AW p l e R s m args below meth c Q cells slots G nL (pc + 3) lv (.int (σ.1 a 17) :: st) shC νC (ovC σ)) : AW p l e R s m args below meth c Q cells slots G nL pc lv (.ref a :: st) shC νC (ovC σ) :=
  hg_get h 17 cf_X11 (by decide) hl (v := .int (σ.1 a 17)) rfl d (shC_e ha) kk
theorem pX11_17 (h : Cx p s m args meth c G cc nL own) {index a : Nat} {x : Int32} (hl : Cond.fieldLink own index "BasketCap" "placeNow" "I" ∈ WS) (d : decode cc pc = .ok (.putfield index, 3)) (ha : (shC a).1 = 11) (he : si σ a 17 x = σ1) (kk : AW p l e R s m args below meth c Q cells slots G nL (pc + 3) lv st shC νC (ovC σ1)) : AW p l e R s m args below meth c Q cells slots G nL pc lv (.int x :: .ref a :: st) shC νC (ovC σ) := by
  subst he
  exact hg_puti h 17 cf_X11 (by decide) hl rfl rfl d (shC_e ha) kk
theorem gX11_18 (h : Cx p s m args meth c G cc nL own) {index a : Nat} (hl : Cond.fieldLink own index "BasketCap" "troubleNow" "I" ∈ WS) (d : decode cc pc = .ok (.getfield index, 3)) (ha : (shC a).1 = 11) (kk : AW p l e R s m args below meth c Q cells slots G nL (pc + 3) lv (.int (σ.1 a 18) :: st) shC νC (ovC σ)) : AW p l e R s m args below meth c Q cells slots G nL pc lv (.ref a :: st) shC νC (ovC σ) :=
  hg_get h 18 cf_X11 (by decide) hl (v := .int (σ.1 a 18)) rfl d (shC_e ha) kk
theorem pX11_18 (h : Cx p s m args meth c G cc nL own) {index a : Nat} {x : Int32} (hl : Cond.fieldLink own index "BasketCap" "troubleNow" "I" ∈ WS) (d : decode cc pc = .ok (.putfield index, 3)) (ha : (shC a).1 = 11) (he : si σ a 18 x = σ1) (kk : AW p l e R s m args below meth c Q cells slots G nL (pc + 3) lv st shC νC (ovC σ1)) : AW p l e R s m args below meth c Q cells slots G nL pc lv (.int x :: .ref a :: st) shC νC (ovC σ) := by
  subst he
  exact hg_puti h 18 cf_X11 (by decide) hl rfl rfl d (shC_e ha) kk
theorem gX12_0 (h : Cx p s m args meth c G cc nL own) {index a : Nat} (hl : Cond.fieldLink own index "BasketCapModel" "thrown" "I" ∈ WS) (d : decode cc pc = .ok (.getfield index, 3)) (ha : (shM a).1 = 12) (kk : AW p l e R s m args below meth c Q cells slots G nL (pc + 3) lv (.int (σ.1 a 0) :: st) shM νM (ovM σ)) : AW p l e R s m args below meth c Q cells slots G nL pc lv (.ref a :: st) shM νM (ovM σ) :=
  hg_get h 0 cf_X12 (by decide) hl (v := .int (σ.1 a 0)) rfl d (shM_e ha) kk
theorem pX12_0 (h : Cx p s m args meth c G cc nL own) {index a : Nat} {x : Int32} (hl : Cond.fieldLink own index "BasketCapModel" "thrown" "I" ∈ WS) (d : decode cc pc = .ok (.putfield index, 3)) (ha : (shM a).1 = 12) (he : si σ a 0 x = σ1) (kk : AW p l e R s m args below meth c Q cells slots G nL (pc + 3) lv st shM νM (ovM σ1)) : AW p l e R s m args below meth c Q cells slots G nL pc lv (.int x :: .ref a :: st) shM νM (ovM σ) := by
  subst he
  exact hg_puti h 0 cf_X12 (by decide) hl rfl rfl d (shM_e ha) kk
theorem gX12_1 (h : Cx p s m args meth c G cc nL own) {index a : Nat} (hl : Cond.fieldLink own index "BasketCapModel" "trouble" "I" ∈ WS) (d : decode cc pc = .ok (.getfield index, 3)) (ha : (shM a).1 = 12) (kk : AW p l e R s m args below meth c Q cells slots G nL (pc + 3) lv (.int (σ.1 a 1) :: st) shM νM (ovM σ)) : AW p l e R s m args below meth c Q cells slots G nL pc lv (.ref a :: st) shM νM (ovM σ) :=
  hg_get h 1 cf_X12 (by decide) hl (v := .int (σ.1 a 1)) rfl d (shM_e ha) kk
theorem pX12_1 (h : Cx p s m args meth c G cc nL own) {index a : Nat} {x : Int32} (hl : Cond.fieldLink own index "BasketCapModel" "trouble" "I" ∈ WS) (d : decode cc pc = .ok (.putfield index, 3)) (ha : (shM a).1 = 12) (he : si σ a 1 x = σ1) (kk : AW p l e R s m args below meth c Q cells slots G nL (pc + 3) lv st shM νM (ovM σ1)) : AW p l e R s m args below meth c Q cells slots G nL pc lv (.int x :: .ref a :: st) shM νM (ovM σ) := by
  subst he
  exact hg_puti h 1 cf_X12 (by decide) hl rfl rfl d (shM_e ha) kk
theorem gX12_2 (h : Cx p s m args meth c G cc nL own) {index a : Nat} (hl : Cond.fieldLink own index "BasketCapModel" "wrongAt" "I" ∈ WS) (d : decode cc pc = .ok (.getfield index, 3)) (ha : (shM a).1 = 12) (kk : AW p l e R s m args below meth c Q cells slots G nL (pc + 3) lv (.int (σ.1 a 2) :: st) shM νM (ovM σ)) : AW p l e R s m args below meth c Q cells slots G nL pc lv (.ref a :: st) shM νM (ovM σ) :=
  hg_get h 2 cf_X12 (by decide) hl (v := .int (σ.1 a 2)) rfl d (shM_e ha) kk
theorem pX12_2 (h : Cx p s m args meth c G cc nL own) {index a : Nat} {x : Int32} (hl : Cond.fieldLink own index "BasketCapModel" "wrongAt" "I" ∈ WS) (d : decode cc pc = .ok (.putfield index, 3)) (ha : (shM a).1 = 12) (he : si σ a 2 x = σ1) (kk : AW p l e R s m args below meth c Q cells slots G nL (pc + 3) lv st shM νM (ovM σ1)) : AW p l e R s m args below meth c Q cells slots G nL pc lv (.int x :: .ref a :: st) shM νM (ovM σ) := by
  subst he
  exact hg_puti h 2 cf_X12 (by decide) hl rfl rfl d (shM_e ha) kk
theorem gX12_3 (h : Cx p s m args meth c G cc nL own) {index a : Nat} (hl : Cond.fieldLink own index "BasketCapModel" "tape" "[I" ∈ WS) (d : decode cc pc = .ok (.getfield index, 3)) (ha : (shM a).1 = 12) (kk : AW p l e R s m args below meth c Q cells slots G nL (pc + 3) lv (.ref (1) :: st) shM νM (ovM σ)) : AW p l e R s m args below meth c Q cells slots G nL pc lv (.ref a :: st) shM νM (ovM σ) :=
  hg_get h 3 cf_X12 (by decide) hl (v := .ref (1)) (fv_ref (Or.inr ⟨_, rfl⟩) (rf_12_3 ha)) d (shM_e ha) kk
theorem gX12_4 (h : Cx p s m args meth c G cc nL own) {index a : Nat} (hl : Cond.fieldLink own index "BasketCapModel" "taped" "I" ∈ WS) (d : decode cc pc = .ok (.getfield index, 3)) (ha : (shM a).1 = 12) (kk : AW p l e R s m args below meth c Q cells slots G nL (pc + 3) lv (.int (σ.1 a 4) :: st) shM νM (ovM σ)) : AW p l e R s m args below meth c Q cells slots G nL pc lv (.ref a :: st) shM νM (ovM σ) :=
  hg_get h 4 cf_X12 (by decide) hl (v := .int (σ.1 a 4)) rfl d (shM_e ha) kk
theorem pX12_4 (h : Cx p s m args meth c G cc nL own) {index a : Nat} {x : Int32} (hl : Cond.fieldLink own index "BasketCapModel" "taped" "I" ∈ WS) (d : decode cc pc = .ok (.putfield index, 3)) (ha : (shM a).1 = 12) (he : si σ a 4 x = σ1) (kk : AW p l e R s m args below meth c Q cells slots G nL (pc + 3) lv st shM νM (ovM σ1)) : AW p l e R s m args below meth c Q cells slots G nL pc lv (.int x :: .ref a :: st) shM νM (ovM σ) := by
  subst he
  exact hg_puti h 4 cf_X12 (by decide) hl rfl rfl d (shM_e ha) kk
theorem gX12_5 (h : Cx p s m args meth c G cc nL own) {index a : Nat} (hl : Cond.fieldLink own index "BasketCapModel" "size" "I" ∈ WS) (d : decode cc pc = .ok (.getfield index, 3)) (ha : (shM a).1 = 12) (kk : AW p l e R s m args below meth c Q cells slots G nL (pc + 3) lv (.int (σ.1 a 5) :: st) shM νM (ovM σ)) : AW p l e R s m args below meth c Q cells slots G nL pc lv (.ref a :: st) shM νM (ovM σ) :=
  hg_get h 5 cf_X12 (by decide) hl (v := .int (σ.1 a 5)) rfl d (shM_e ha) kk
theorem pX12_5 (h : Cx p s m args meth c G cc nL own) {index a : Nat} {x : Int32} (hl : Cond.fieldLink own index "BasketCapModel" "size" "I" ∈ WS) (d : decode cc pc = .ok (.putfield index, 3)) (ha : (shM a).1 = 12) (he : si σ a 5 x = σ1) (kk : AW p l e R s m args below meth c Q cells slots G nL (pc + 3) lv st shM νM (ovM σ1)) : AW p l e R s m args below meth c Q cells slots G nL pc lv (.int x :: .ref a :: st) shM νM (ovM σ) := by
  subst he
  exact hg_puti h 5 cf_X12 (by decide) hl rfl rfl d (shM_e ha) kk
theorem gX12_6 (h : Cx p s m args meth c G cc nL own) {index a : Nat} (hl : Cond.fieldLink own index "BasketCapModel" "spot" "I" ∈ WS) (d : decode cc pc = .ok (.getfield index, 3)) (ha : (shM a).1 = 12) (kk : AW p l e R s m args below meth c Q cells slots G nL (pc + 3) lv (.int (σ.1 a 6) :: st) shM νM (ovM σ)) : AW p l e R s m args below meth c Q cells slots G nL pc lv (.ref a :: st) shM νM (ovM σ) :=
  hg_get h 6 cf_X12 (by decide) hl (v := .int (σ.1 a 6)) rfl d (shM_e ha) kk
theorem pX12_6 (h : Cx p s m args meth c G cc nL own) {index a : Nat} {x : Int32} (hl : Cond.fieldLink own index "BasketCapModel" "spot" "I" ∈ WS) (d : decode cc pc = .ok (.putfield index, 3)) (ha : (shM a).1 = 12) (he : si σ a 6 x = σ1) (kk : AW p l e R s m args below meth c Q cells slots G nL (pc + 3) lv st shM νM (ovM σ1)) : AW p l e R s m args below meth c Q cells slots G nL pc lv (.int x :: .ref a :: st) shM νM (ovM σ) := by
  subst he
  exact hg_puti h 6 cf_X12 (by decide) hl rfl rfl d (shM_e ha) kk
theorem gX12_7 (h : Cx p s m args meth c G cc nL own) {index a : Nat} (hl : Cond.fieldLink own index "BasketCapModel" "fault" "I" ∈ WS) (d : decode cc pc = .ok (.getfield index, 3)) (ha : (shM a).1 = 12) (kk : AW p l e R s m args below meth c Q cells slots G nL (pc + 3) lv (.int (σ.1 a 7) :: st) shM νM (ovM σ)) : AW p l e R s m args below meth c Q cells slots G nL pc lv (.ref a :: st) shM νM (ovM σ) :=
  hg_get h 7 cf_X12 (by decide) hl (v := .int (σ.1 a 7)) rfl d (shM_e ha) kk
theorem pX12_7 (h : Cx p s m args meth c G cc nL own) {index a : Nat} {x : Int32} (hl : Cond.fieldLink own index "BasketCapModel" "fault" "I" ∈ WS) (d : decode cc pc = .ok (.putfield index, 3)) (ha : (shM a).1 = 12) (he : si σ a 7 x = σ1) (kk : AW p l e R s m args below meth c Q cells slots G nL (pc + 3) lv st shM νM (ovM σ1)) : AW p l e R s m args below meth c Q cells slots G nL pc lv (.int x :: .ref a :: st) shM νM (ovM σ) := by
  subst he
  exact hg_puti h 7 cf_X12 (by decide) hl rfl rfl d (shM_e ha) kk
theorem gX12_8 (h : Cx p s m args meth c G cc nL own) {index a : Nat} (hl : Cond.fieldLink own index "BasketCapModel" "faultAt" "I" ∈ WS) (d : decode cc pc = .ok (.getfield index, 3)) (ha : (shM a).1 = 12) (kk : AW p l e R s m args below meth c Q cells slots G nL (pc + 3) lv (.int (σ.1 a 8) :: st) shM νM (ovM σ)) : AW p l e R s m args below meth c Q cells slots G nL pc lv (.ref a :: st) shM νM (ovM σ) :=
  hg_get h 8 cf_X12 (by decide) hl (v := .int (σ.1 a 8)) rfl d (shM_e ha) kk
theorem pX12_8 (h : Cx p s m args meth c G cc nL own) {index a : Nat} {x : Int32} (hl : Cond.fieldLink own index "BasketCapModel" "faultAt" "I" ∈ WS) (d : decode cc pc = .ok (.putfield index, 3)) (ha : (shM a).1 = 12) (he : si σ a 8 x = σ1) (kk : AW p l e R s m args below meth c Q cells slots G nL (pc + 3) lv st shM νM (ovM σ1)) : AW p l e R s m args below meth c Q cells slots G nL pc lv (.int x :: .ref a :: st) shM νM (ovM σ) := by
  subst he
  exact hg_puti h 8 cf_X12 (by decide) hl rfl rfl d (shM_e ha) kk
theorem gX12_9 (h : Cx p s m args meth c G cc nL own) {index a : Nat} (hl : Cond.fieldLink own index "BasketCapModel" "token" "I" ∈ WS) (d : decode cc pc = .ok (.getfield index, 3)) (ha : (shM a).1 = 12) (kk : AW p l e R s m args below meth c Q cells slots G nL (pc + 3) lv (.int (σ.1 a 9) :: st) shM νM (ovM σ)) : AW p l e R s m args below meth c Q cells slots G nL pc lv (.ref a :: st) shM νM (ovM σ) :=
  hg_get h 9 cf_X12 (by decide) hl (v := .int (σ.1 a 9)) rfl d (shM_e ha) kk
theorem pX12_9 (h : Cx p s m args meth c G cc nL own) {index a : Nat} {x : Int32} (hl : Cond.fieldLink own index "BasketCapModel" "token" "I" ∈ WS) (d : decode cc pc = .ok (.putfield index, 3)) (ha : (shM a).1 = 12) (he : si σ a 9 x = σ1) (kk : AW p l e R s m args below meth c Q cells slots G nL (pc + 3) lv st shM νM (ovM σ1)) : AW p l e R s m args below meth c Q cells slots G nL pc lv (.int x :: .ref a :: st) shM νM (ovM σ) := by
  subst he
  exact hg_puti h 9 cf_X12 (by decide) hl rfl rfl d (shM_e ha) kk
theorem gX12_10 (h : Cx p s m args meth c G cc nL own) {index a : Nat} (hl : Cond.fieldLink own index "BasketCapModel" "at" "I" ∈ WS) (d : decode cc pc = .ok (.getfield index, 3)) (ha : (shM a).1 = 12) (kk : AW p l e R s m args below meth c Q cells slots G nL (pc + 3) lv (.int (σ.1 a 10) :: st) shM νM (ovM σ)) : AW p l e R s m args below meth c Q cells slots G nL pc lv (.ref a :: st) shM νM (ovM σ) :=
  hg_get h 10 cf_X12 (by decide) hl (v := .int (σ.1 a 10)) rfl d (shM_e ha) kk
theorem pX12_10 (h : Cx p s m args meth c G cc nL own) {index a : Nat} {x : Int32} (hl : Cond.fieldLink own index "BasketCapModel" "at" "I" ∈ WS) (d : decode cc pc = .ok (.putfield index, 3)) (ha : (shM a).1 = 12) (he : si σ a 10 x = σ1) (kk : AW p l e R s m args below meth c Q cells slots G nL (pc + 3) lv st shM νM (ovM σ1)) : AW p l e R s m args below meth c Q cells slots G nL pc lv (.int x :: .ref a :: st) shM νM (ovM σ) := by
  subst he
  exact hg_puti h 10 cf_X12 (by decide) hl rfl rfl d (shM_e ha) kk
theorem gX12_11 (h : Cx p s m args meth c G cc nL own) {index a : Nat} (hl : Cond.fieldLink own index "BasketCapModel" "sign" "I" ∈ WS) (d : decode cc pc = .ok (.getfield index, 3)) (ha : (shM a).1 = 12) (kk : AW p l e R s m args below meth c Q cells slots G nL (pc + 3) lv (.int (σ.1 a 11) :: st) shM νM (ovM σ)) : AW p l e R s m args below meth c Q cells slots G nL pc lv (.ref a :: st) shM νM (ovM σ) :=
  hg_get h 11 cf_X12 (by decide) hl (v := .int (σ.1 a 11)) rfl d (shM_e ha) kk
theorem pX12_11 (h : Cx p s m args meth c G cc nL own) {index a : Nat} {x : Int32} (hl : Cond.fieldLink own index "BasketCapModel" "sign" "I" ∈ WS) (d : decode cc pc = .ok (.putfield index, 3)) (ha : (shM a).1 = 12) (he : si σ a 11 x = σ1) (kk : AW p l e R s m args below meth c Q cells slots G nL (pc + 3) lv st shM νM (ovM σ1)) : AW p l e R s m args below meth c Q cells slots G nL pc lv (.int x :: .ref a :: st) shM νM (ovM σ) := by
  subst he
  exact hg_puti h 11 cf_X12 (by decide) hl rfl rfl d (shM_e ha) kk
theorem gX12_12 (h : Cx p s m args meth c G cc nL own) {index a : Nat} (hl : Cond.fieldLink own index "BasketCapModel" "number" "I" ∈ WS) (d : decode cc pc = .ok (.getfield index, 3)) (ha : (shM a).1 = 12) (kk : AW p l e R s m args below meth c Q cells slots G nL (pc + 3) lv (.int (σ.1 a 12) :: st) shM νM (ovM σ)) : AW p l e R s m args below meth c Q cells slots G nL pc lv (.ref a :: st) shM νM (ovM σ) :=
  hg_get h 12 cf_X12 (by decide) hl (v := .int (σ.1 a 12)) rfl d (shM_e ha) kk
theorem pX12_12 (h : Cx p s m args meth c G cc nL own) {index a : Nat} {x : Int32} (hl : Cond.fieldLink own index "BasketCapModel" "number" "I" ∈ WS) (d : decode cc pc = .ok (.putfield index, 3)) (ha : (shM a).1 = 12) (he : si σ a 12 x = σ1) (kk : AW p l e R s m args below meth c Q cells slots G nL (pc + 3) lv st shM νM (ovM σ1)) : AW p l e R s m args below meth c Q cells slots G nL pc lv (.int x :: .ref a :: st) shM νM (ovM σ) := by
  subst he
  exact hg_puti h 12 cf_X12 (by decide) hl rfl rfl d (shM_e ha) kk
theorem gX12_13 (h : Cx p s m args meth c G cc nL own) {index a : Nat} (hl : Cond.fieldLink own index "BasketCapModel" "word" "J" ∈ WS) (d : decode cc pc = .ok (.getfield index, 3)) (ha : (shM a).1 = 12) (kk : AW p l e R s m args below meth c Q cells slots G nL (pc + 3) lv (.long (σ.2.1 a 13) :: st) shM νM (ovM σ)) : AW p l e R s m args below meth c Q cells slots G nL pc lv (.ref a :: st) shM νM (ovM σ) :=
  hg_get h 13 cf_X12 (by decide) hl (v := .long (σ.2.1 a 13)) rfl d (shM_e ha) kk
theorem pX12_13 (h : Cx p s m args meth c G cc nL own) {index a : Nat} {x : Int64} (hl : Cond.fieldLink own index "BasketCapModel" "word" "J" ∈ WS) (d : decode cc pc = .ok (.putfield index, 3)) (ha : (shM a).1 = 12) (he : sj σ a 13 x = σ1) (kk : AW p l e R s m args below meth c Q cells slots G nL (pc + 3) lv st shM νM (ovM σ1)) : AW p l e R s m args below meth c Q cells slots G nL pc lv (.long x :: .ref a :: st) shM νM (ovM σ) := by
  subst he
  exact hg_putj h 13 cf_X12 (by decide) hl rfl rfl d (shM_e ha) kk
theorem gX12_14 (h : Cx p s m args meth c G cc nL own) {index a : Nat} (hl : Cond.fieldLink own index "BasketCapModel" "now" "[I" ∈ WS) (d : decode cc pc = .ok (.getfield index, 3)) (ha : (shM a).1 = 12) (kk : AW p l e R s m args below meth c Q cells slots G nL (pc + 3) lv (.ref (2) :: st) shM νM (ovM σ)) : AW p l e R s m args below meth c Q cells slots G nL pc lv (.ref a :: st) shM νM (ovM σ) :=
  hg_get h 14 cf_X12 (by decide) hl (v := .ref (2)) (fv_ref (Or.inr ⟨_, rfl⟩) (rf_12_14 ha)) d (shM_e ha) kk
theorem gX12_15 (h : Cx p s m args meth c G cc nL own) {index a : Nat} (hl : Cond.fieldLink own index "BasketCapModel" "read" "[I" ∈ WS) (d : decode cc pc = .ok (.getfield index, 3)) (ha : (shM a).1 = 12) (kk : AW p l e R s m args below meth c Q cells slots G nL (pc + 3) lv (.ref (3) :: st) shM νM (ovM σ)) : AW p l e R s m args below meth c Q cells slots G nL pc lv (.ref a :: st) shM νM (ovM σ) :=
  hg_get h 15 cf_X12 (by decide) hl (v := .ref (3)) (fv_ref (Or.inr ⟨_, rfl⟩) (rf_12_15 ha)) d (shM_e ha) kk
theorem gX12_16 (h : Cx p s m args meth c G cc nL own) {index a : Nat} (hl : Cond.fieldLink own index "BasketCapModel" "aside" "[I" ∈ WS) (d : decode cc pc = .ok (.getfield index, 3)) (ha : (shM a).1 = 12) (kk : AW p l e R s m args below meth c Q cells slots G nL (pc + 3) lv (.ref (4) :: st) shM νM (ovM σ)) : AW p l e R s m args below meth c Q cells slots G nL pc lv (.ref a :: st) shM νM (ovM σ) :=
  hg_get h 16 cf_X12 (by decide) hl (v := .ref (4)) (fv_ref (Or.inr ⟨_, rfl⟩) (rf_12_16 ha)) d (shM_e ha) kk
theorem gX12_17 (h : Cx p s m args meth c G cc nL own) {index a : Nat} (hl : Cond.fieldLink own index "BasketCapModel" "past" "[I" ∈ WS) (d : decode cc pc = .ok (.getfield index, 3)) (ha : (shM a).1 = 12) (kk : AW p l e R s m args below meth c Q cells slots G nL (pc + 3) lv (.ref (5) :: st) shM νM (ovM σ)) : AW p l e R s m args below meth c Q cells slots G nL pc lv (.ref a :: st) shM νM (ovM σ) :=
  hg_get h 17 cf_X12 (by decide) hl (v := .ref (5)) (fv_ref (Or.inr ⟨_, rfl⟩) (rf_12_17 ha)) d (shM_e ha) kk
theorem gX12_18 (h : Cx p s m args meth c G cc nL own) {index a : Nat} (hl : Cond.fieldLink own index "BasketCapModel" "images" "[I" ∈ WS) (d : decode cc pc = .ok (.getfield index, 3)) (ha : (shM a).1 = 12) (kk : AW p l e R s m args below meth c Q cells slots G nL (pc + 3) lv (.ref (6) :: st) shM νM (ovM σ)) : AW p l e R s m args below meth c Q cells slots G nL pc lv (.ref a :: st) shM νM (ovM σ) :=
  hg_get h 18 cf_X12 (by decide) hl (v := .ref (6)) (fv_ref (Or.inr ⟨_, rfl⟩) (rf_12_18 ha)) d (shM_e ha) kk
theorem gX12_19 (h : Cx p s m args meth c G cc nL own) {index a : Nat} (hl : Cond.fieldLink own index "BasketCapModel" "names" "[J" ∈ WS) (d : decode cc pc = .ok (.getfield index, 3)) (ha : (shM a).1 = 12) (kk : AW p l e R s m args below meth c Q cells slots G nL (pc + 3) lv (.ref (7) :: st) shM νM (ovM σ)) : AW p l e R s m args below meth c Q cells slots G nL pc lv (.ref a :: st) shM νM (ovM σ) :=
  hg_get h 19 cf_X12 (by decide) hl (v := .ref (7)) (fv_ref (Or.inr ⟨_, rfl⟩) (rf_12_19 ha)) d (shM_e ha) kk
theorem gX12_20 (h : Cx p s m args meth c G cc nL own) {index a : Nat} (hl : Cond.fieldLink own index "BasketCapModel" "readNames" "[J" ∈ WS) (d : decode cc pc = .ok (.getfield index, 3)) (ha : (shM a).1 = 12) (kk : AW p l e R s m args below meth c Q cells slots G nL (pc + 3) lv (.ref (8) :: st) shM νM (ovM σ)) : AW p l e R s m args below meth c Q cells slots G nL pc lv (.ref a :: st) shM νM (ovM σ) :=
  hg_get h 20 cf_X12 (by decide) hl (v := .ref (8)) (fv_ref (Or.inr ⟨_, rfl⟩) (rf_12_20 ha)) d (shM_e ha) kk
theorem gX12_21 (h : Cx p s m args meth c G cc nL own) {index a : Nat} (hl : Cond.fieldLink own index "BasketCapModel" "kept" "[Z" ∈ WS) (d : decode cc pc = .ok (.getfield index, 3)) (ha : (shM a).1 = 12) (kk : AW p l e R s m args below meth c Q cells slots G nL (pc + 3) lv (.ref (9) :: st) shM νM (ovM σ)) : AW p l e R s m args below meth c Q cells slots G nL pc lv (.ref a :: st) shM νM (ovM σ) :=
  hg_get h 21 cf_X12 (by decide) hl (v := .ref (9)) (fv_ref (Or.inr ⟨_, rfl⟩) (rf_12_21 ha)) d (shM_e ha) kk
theorem gX12_22 (h : Cx p s m args meth c G cc nL own) {index a : Nat} (hl : Cond.fieldLink own index "BasketCapModel" "many" "I" ∈ WS) (d : decode cc pc = .ok (.getfield index, 3)) (ha : (shM a).1 = 12) (kk : AW p l e R s m args below meth c Q cells slots G nL (pc + 3) lv (.int (σ.1 a 22) :: st) shM νM (ovM σ)) : AW p l e R s m args below meth c Q cells slots G nL pc lv (.ref a :: st) shM νM (ovM σ) :=
  hg_get h 22 cf_X12 (by decide) hl (v := .int (σ.1 a 22)) rfl d (shM_e ha) kk
theorem pX12_22 (h : Cx p s m args meth c G cc nL own) {index a : Nat} {x : Int32} (hl : Cond.fieldLink own index "BasketCapModel" "many" "I" ∈ WS) (d : decode cc pc = .ok (.putfield index, 3)) (ha : (shM a).1 = 12) (he : si σ a 22 x = σ1) (kk : AW p l e R s m args below meth c Q cells slots G nL (pc + 3) lv st shM νM (ovM σ1)) : AW p l e R s m args below meth c Q cells slots G nL pc lv (.int x :: .ref a :: st) shM νM (ovM σ) := by
  subst he
  exact hg_puti h 22 cf_X12 (by decide) hl rfl rfl d (shM_e ha) kk
theorem gX12_23 (h : Cx p s m args meth c G cc nL own) {index a : Nat} (hl : Cond.fieldLink own index "BasketCapModel" "readMany" "I" ∈ WS) (d : decode cc pc = .ok (.getfield index, 3)) (ha : (shM a).1 = 12) (kk : AW p l e R s m args below meth c Q cells slots G nL (pc + 3) lv (.int (σ.1 a 23) :: st) shM νM (ovM σ)) : AW p l e R s m args below meth c Q cells slots G nL pc lv (.ref a :: st) shM νM (ovM σ) :=
  hg_get h 23 cf_X12 (by decide) hl (v := .int (σ.1 a 23)) rfl d (shM_e ha) kk
theorem pX12_23 (h : Cx p s m args meth c G cc nL own) {index a : Nat} {x : Int32} (hl : Cond.fieldLink own index "BasketCapModel" "readMany" "I" ∈ WS) (d : decode cc pc = .ok (.putfield index, 3)) (ha : (shM a).1 = 12) (he : si σ a 23 x = σ1) (kk : AW p l e R s m args below meth c Q cells slots G nL (pc + 3) lv st shM νM (ovM σ1)) : AW p l e R s m args below meth c Q cells slots G nL pc lv (.int x :: .ref a :: st) shM νM (ovM σ) := by
  subst he
  exact hg_puti h 23 cf_X12 (by decide) hl rfl rfl d (shM_e ha) kk
theorem gX12_24 (h : Cx p s m args meth c G cc nL own) {index a : Nat} (hl : Cond.fieldLink own index "BasketCapModel" "acts" "I" ∈ WS) (d : decode cc pc = .ok (.getfield index, 3)) (ha : (shM a).1 = 12) (kk : AW p l e R s m args below meth c Q cells slots G nL (pc + 3) lv (.int (σ.1 a 24) :: st) shM νM (ovM σ)) : AW p l e R s m args below meth c Q cells slots G nL pc lv (.ref a :: st) shM νM (ovM σ) :=
  hg_get h 24 cf_X12 (by decide) hl (v := .int (σ.1 a 24)) rfl d (shM_e ha) kk
theorem pX12_24 (h : Cx p s m args meth c G cc nL own) {index a : Nat} {x : Int32} (hl : Cond.fieldLink own index "BasketCapModel" "acts" "I" ∈ WS) (d : decode cc pc = .ok (.putfield index, 3)) (ha : (shM a).1 = 12) (he : si σ a 24 x = σ1) (kk : AW p l e R s m args below meth c Q cells slots G nL (pc + 3) lv st shM νM (ovM σ1)) : AW p l e R s m args below meth c Q cells slots G nL pc lv (.int x :: .ref a :: st) shM νM (ovM σ) := by
  subst he
  exact hg_puti h 24 cf_X12 (by decide) hl rfl rfl d (shM_e ha) kk
theorem gX12_25 (h : Cx p s m args meth c G cc nL own) {index a : Nat} (hl : Cond.fieldLink own index "BasketCapModel" "hasText" "Z" ∈ WS) (d : decode cc pc = .ok (.getfield index, 3)) (ha : (shM a).1 = 12) (kk : AW p l e R s m args below meth c Q cells slots G nL (pc + 3) lv (.int (σ.1 a 25) :: st) shM νM (ovM σ)) : AW p l e R s m args below meth c Q cells slots G nL pc lv (.ref a :: st) shM νM (ovM σ) :=
  hg_get h 25 cf_X12 (by decide) hl (v := .int (σ.1 a 25)) rfl d (shM_e ha) kk
theorem pX12_25 (h : Cx p s m args meth c G cc nL own) {index a : Nat} {x : Int32} (hl : Cond.fieldLink own index "BasketCapModel" "hasText" "Z" ∈ WS) (d : decode cc pc = .ok (.putfield index, 3)) (ha : (shM a).1 = 12) (hx : x = 0 ∨ x = 1) (he : si σ a 25 x = σ1) (kk : AW p l e R s m args below meth c Q cells slots G nL (pc + 3) lv st shM νM (ovM σ1)) : AW p l e R s m args below meth c Q cells slots G nL pc lv (.int x :: .ref a :: st) shM νM (ovM σ) := by
  subst he
  exact hg_putz h 25 cf_X12 (by decide) hl rfl rfl d (shM_e ha) hx kk
theorem gX12_26 (h : Cx p s m args meth c G cc nL own) {index a : Nat} (hl : Cond.fieldLink own index "BasketCapModel" "units" "[I" ∈ WS) (d : decode cc pc = .ok (.getfield index, 3)) (ha : (shM a).1 = 12) (kk : AW p l e R s m args below meth c Q cells slots G nL (pc + 3) lv (.ref (10) :: st) shM νM (ovM σ)) : AW p l e R s m args below meth c Q cells slots G nL pc lv (.ref a :: st) shM νM (ovM σ) :=
  hg_get h 26 cf_X12 (by decide) hl (v := .ref (10)) (fv_ref (Or.inr ⟨_, rfl⟩) (rf_12_26 ha)) d (shM_e ha) kk
theorem gX12_27 (h : Cx p s m args meth c G cc nL own) {index a : Nat} (hl : Cond.fieldLink own index "BasketCapModel" "readUnits" "[I" ∈ WS) (d : decode cc pc = .ok (.getfield index, 3)) (ha : (shM a).1 = 12) (kk : AW p l e R s m args below meth c Q cells slots G nL (pc + 3) lv (.ref (11) :: st) shM νM (ovM σ)) : AW p l e R s m args below meth c Q cells slots G nL pc lv (.ref a :: st) shM νM (ovM σ) :=
  hg_get h 27 cf_X12 (by decide) hl (v := .ref (11)) (fv_ref (Or.inr ⟨_, rfl⟩) (rf_12_27 ha)) d (shM_e ha) kk
theorem gX12_28 (h : Cx p s m args meth c G cc nL own) {index a : Nat} (hl : Cond.fieldLink own index "BasketCapModel" "buyers" "I" ∈ WS) (d : decode cc pc = .ok (.getfield index, 3)) (ha : (shM a).1 = 12) (kk : AW p l e R s m args below meth c Q cells slots G nL (pc + 3) lv (.int (σ.1 a 28) :: st) shM νM (ovM σ)) : AW p l e R s m args below meth c Q cells slots G nL pc lv (.ref a :: st) shM νM (ovM σ) :=
  hg_get h 28 cf_X12 (by decide) hl (v := .int (σ.1 a 28)) rfl d (shM_e ha) kk
theorem pX12_28 (h : Cx p s m args meth c G cc nL own) {index a : Nat} {x : Int32} (hl : Cond.fieldLink own index "BasketCapModel" "buyers" "I" ∈ WS) (d : decode cc pc = .ok (.putfield index, 3)) (ha : (shM a).1 = 12) (he : si σ a 28 x = σ1) (kk : AW p l e R s m args below meth c Q cells slots G nL (pc + 3) lv st shM νM (ovM σ1)) : AW p l e R s m args below meth c Q cells slots G nL pc lv (.int x :: .ref a :: st) shM νM (ovM σ) := by
  subst he
  exact hg_puti h 28 cf_X12 (by decide) hl rfl rfl d (shM_e ha) kk
theorem gX12_29 (h : Cx p s m args meth c G cc nL own) {index a : Nat} (hl : Cond.fieldLink own index "BasketCapModel" "readBuyers" "I" ∈ WS) (d : decode cc pc = .ok (.getfield index, 3)) (ha : (shM a).1 = 12) (kk : AW p l e R s m args below meth c Q cells slots G nL (pc + 3) lv (.int (σ.1 a 29) :: st) shM νM (ovM σ)) : AW p l e R s m args below meth c Q cells slots G nL pc lv (.ref a :: st) shM νM (ovM σ) :=
  hg_get h 29 cf_X12 (by decide) hl (v := .int (σ.1 a 29)) rfl d (shM_e ha) kk
theorem pX12_29 (h : Cx p s m args meth c G cc nL own) {index a : Nat} {x : Int32} (hl : Cond.fieldLink own index "BasketCapModel" "readBuyers" "I" ∈ WS) (d : decode cc pc = .ok (.putfield index, 3)) (ha : (shM a).1 = 12) (he : si σ a 29 x = σ1) (kk : AW p l e R s m args below meth c Q cells slots G nL (pc + 3) lv st shM νM (ovM σ1)) : AW p l e R s m args below meth c Q cells slots G nL pc lv (.int x :: .ref a :: st) shM νM (ovM σ) := by
  subst he
  exact hg_puti h 29 cf_X12 (by decide) hl rfl rfl d (shM_e ha) kk
theorem gX12_30 (h : Cx p s m args meth c G cc nL own) {index a : Nat} (hl : Cond.fieldLink own index "BasketCapModel" "once" "I" ∈ WS) (d : decode cc pc = .ok (.getfield index, 3)) (ha : (shM a).1 = 12) (kk : AW p l e R s m args below meth c Q cells slots G nL (pc + 3) lv (.int (σ.1 a 30) :: st) shM νM (ovM σ)) : AW p l e R s m args below meth c Q cells slots G nL pc lv (.ref a :: st) shM νM (ovM σ) :=
  hg_get h 30 cf_X12 (by decide) hl (v := .int (σ.1 a 30)) rfl d (shM_e ha) kk
theorem pX12_30 (h : Cx p s m args meth c G cc nL own) {index a : Nat} {x : Int32} (hl : Cond.fieldLink own index "BasketCapModel" "once" "I" ∈ WS) (d : decode cc pc = .ok (.putfield index, 3)) (ha : (shM a).1 = 12) (he : si σ a 30 x = σ1) (kk : AW p l e R s m args below meth c Q cells slots G nL (pc + 3) lv st shM νM (ovM σ1)) : AW p l e R s m args below meth c Q cells slots G nL pc lv (.int x :: .ref a :: st) shM νM (ovM σ) := by
  subst he
  exact hg_puti h 30 cf_X12 (by decide) hl rfl rfl d (shM_e ha) kk
theorem gX12_31 (h : Cx p s m args meth c G cc nL own) {index a : Nat} (hl : Cond.fieldLink own index "BasketCapModel" "worth" "[I" ∈ WS) (d : decode cc pc = .ok (.getfield index, 3)) (ha : (shM a).1 = 12) (kk : AW p l e R s m args below meth c Q cells slots G nL (pc + 3) lv (.ref (12) :: st) shM νM (ovM σ)) : AW p l e R s m args below meth c Q cells slots G nL pc lv (.ref a :: st) shM νM (ovM σ) :=
  hg_get h 31 cf_X12 (by decide) hl (v := .ref (12)) (fv_ref (Or.inr ⟨_, rfl⟩) (rf_12_31 ha)) d (shM_e ha) kk
theorem gX12_32 (h : Cx p s m args meth c G cc nL own) {index a : Nat} (hl : Cond.fieldLink own index "BasketCapModel" "behind" "[I" ∈ WS) (d : decode cc pc = .ok (.getfield index, 3)) (ha : (shM a).1 = 12) (kk : AW p l e R s m args below meth c Q cells slots G nL (pc + 3) lv (.ref (13) :: st) shM νM (ovM σ)) : AW p l e R s m args below meth c Q cells slots G nL pc lv (.ref a :: st) shM νM (ovM σ) :=
  hg_get h 32 cf_X12 (by decide) hl (v := .ref (13)) (fv_ref (Or.inr ⟨_, rfl⟩) (rf_12_32 ha)) d (shM_e ha) kk
theorem gX12_33 (h : Cx p s m args meth c G cc nL own) {index a : Nat} (hl : Cond.fieldLink own index "BasketCapModel" "weights" "[I" ∈ WS) (d : decode cc pc = .ok (.getfield index, 3)) (ha : (shM a).1 = 12) (kk : AW p l e R s m args below meth c Q cells slots G nL (pc + 3) lv (.ref (14) :: st) shM νM (ovM σ)) : AW p l e R s m args below meth c Q cells slots G nL pc lv (.ref a :: st) shM νM (ovM σ) :=
  hg_get h 33 cf_X12 (by decide) hl (v := .ref (14)) (fv_ref (Or.inr ⟨_, rfl⟩) (rf_12_33 ha)) d (shM_e ha) kk
theorem gX12_34 (h : Cx p s m args meth c G cc nL own) {index a : Nat} (hl : Cond.fieldLink own index "BasketCapModel" "row" "[I" ∈ WS) (d : decode cc pc = .ok (.getfield index, 3)) (ha : (shM a).1 = 12) (kk : AW p l e R s m args below meth c Q cells slots G nL (pc + 3) lv (.ref (15) :: st) shM νM (ovM σ)) : AW p l e R s m args below meth c Q cells slots G nL pc lv (.ref a :: st) shM νM (ovM σ) :=
  hg_get h 34 cf_X12 (by decide) hl (v := .ref (15)) (fv_ref (Or.inr ⟨_, rfl⟩) (rf_12_34 ha)) d (shM_e ha) kk
theorem gX12_35 (h : Cx p s m args meth c G cc nL own) {index a : Nat} (hl : Cond.fieldLink own index "BasketCapModel" "bestRow" "[I" ∈ WS) (d : decode cc pc = .ok (.getfield index, 3)) (ha : (shM a).1 = 12) (kk : AW p l e R s m args below meth c Q cells slots G nL (pc + 3) lv (.ref (16) :: st) shM νM (ovM σ)) : AW p l e R s m args below meth c Q cells slots G nL pc lv (.ref a :: st) shM νM (ovM σ) :=
  hg_get h 35 cf_X12 (by decide) hl (v := .ref (16)) (fv_ref (Or.inr ⟨_, rfl⟩) (rf_12_35 ha)) d (shM_e ha) kk
theorem gX12_36 (h : Cx p s m args meth c G cc nL own) {index a : Nat} (hl : Cond.fieldLink own index "BasketCapModel" "most" "I" ∈ WS) (d : decode cc pc = .ok (.getfield index, 3)) (ha : (shM a).1 = 12) (kk : AW p l e R s m args below meth c Q cells slots G nL (pc + 3) lv (.int (σ.1 a 36) :: st) shM νM (ovM σ)) : AW p l e R s m args below meth c Q cells slots G nL pc lv (.ref a :: st) shM νM (ovM σ) :=
  hg_get h 36 cf_X12 (by decide) hl (v := .int (σ.1 a 36)) rfl d (shM_e ha) kk
theorem pX12_36 (h : Cx p s m args meth c G cc nL own) {index a : Nat} {x : Int32} (hl : Cond.fieldLink own index "BasketCapModel" "most" "I" ∈ WS) (d : decode cc pc = .ok (.putfield index, 3)) (ha : (shM a).1 = 12) (he : si σ a 36 x = σ1) (kk : AW p l e R s m args below meth c Q cells slots G nL (pc + 3) lv st shM νM (ovM σ1)) : AW p l e R s m args below meth c Q cells slots G nL pc lv (.int x :: .ref a :: st) shM νM (ovM σ) := by
  subst he
  exact hg_puti h 36 cf_X12 (by decide) hl rfl rfl d (shM_e ha) kk
theorem gX12_37 (h : Cx p s m args meth c G cc nL own) {index a : Nat} (hl : Cond.fieldLink own index "BasketCapModel" "rows" "I" ∈ WS) (d : decode cc pc = .ok (.getfield index, 3)) (ha : (shM a).1 = 12) (kk : AW p l e R s m args below meth c Q cells slots G nL (pc + 3) lv (.int (σ.1 a 37) :: st) shM νM (ovM σ)) : AW p l e R s m args below meth c Q cells slots G nL pc lv (.ref a :: st) shM νM (ovM σ) :=
  hg_get h 37 cf_X12 (by decide) hl (v := .int (σ.1 a 37)) rfl d (shM_e ha) kk
theorem pX12_37 (h : Cx p s m args meth c G cc nL own) {index a : Nat} {x : Int32} (hl : Cond.fieldLink own index "BasketCapModel" "rows" "I" ∈ WS) (d : decode cc pc = .ok (.putfield index, 3)) (ha : (shM a).1 = 12) (he : si σ a 37 x = σ1) (kk : AW p l e R s m args below meth c Q cells slots G nL (pc + 3) lv st shM νM (ovM σ1)) : AW p l e R s m args below meth c Q cells slots G nL pc lv (.int x :: .ref a :: st) shM νM (ovM σ) := by
  subst he
  exact hg_puti h 37 cf_X12 (by decide) hl rfl rfl d (shM_e ha) kk
theorem gX12_38 (h : Cx p s m args meth c G cc nL own) {index a : Nat} (hl : Cond.fieldLink own index "BasketCapModel" "farthest" "I" ∈ WS) (d : decode cc pc = .ok (.getfield index, 3)) (ha : (shM a).1 = 12) (kk : AW p l e R s m args below meth c Q cells slots G nL (pc + 3) lv (.int (σ.1 a 38) :: st) shM νM (ovM σ)) : AW p l e R s m args below meth c Q cells slots G nL pc lv (.ref a :: st) shM νM (ovM σ) :=
  hg_get h 38 cf_X12 (by decide) hl (v := .int (σ.1 a 38)) rfl d (shM_e ha) kk
theorem pX12_38 (h : Cx p s m args meth c G cc nL own) {index a : Nat} {x : Int32} (hl : Cond.fieldLink own index "BasketCapModel" "farthest" "I" ∈ WS) (d : decode cc pc = .ok (.putfield index, 3)) (ha : (shM a).1 = 12) (he : si σ a 38 x = σ1) (kk : AW p l e R s m args below meth c Q cells slots G nL (pc + 3) lv st shM νM (ovM σ1)) : AW p l e R s m args below meth c Q cells slots G nL pc lv (.int x :: .ref a :: st) shM νM (ovM σ) := by
  subst he
  exact hg_puti h 38 cf_X12 (by decide) hl rfl rfl d (shM_e ha) kk
theorem gX12_39 (h : Cx p s m args meth c G cc nL own) {index a : Nat} (hl : Cond.fieldLink own index "BasketCapModel" "isGentle" "Z" ∈ WS) (d : decode cc pc = .ok (.getfield index, 3)) (ha : (shM a).1 = 12) (kk : AW p l e R s m args below meth c Q cells slots G nL (pc + 3) lv (.int (σ.1 a 39) :: st) shM νM (ovM σ)) : AW p l e R s m args below meth c Q cells slots G nL pc lv (.ref a :: st) shM νM (ovM σ) :=
  hg_get h 39 cf_X12 (by decide) hl (v := .int (σ.1 a 39)) rfl d (shM_e ha) kk
theorem pX12_39 (h : Cx p s m args meth c G cc nL own) {index a : Nat} {x : Int32} (hl : Cond.fieldLink own index "BasketCapModel" "isGentle" "Z" ∈ WS) (d : decode cc pc = .ok (.putfield index, 3)) (ha : (shM a).1 = 12) (hx : x = 0 ∨ x = 1) (he : si σ a 39 x = σ1) (kk : AW p l e R s m args below meth c Q cells slots G nL (pc + 3) lv st shM νM (ovM σ1)) : AW p l e R s m args below meth c Q cells slots G nL pc lv (.int x :: .ref a :: st) shM νM (ovM σ) := by
  subst he
  exact hg_putz h 39 cf_X12 (by decide) hl rfl rfl d (shM_e ha) hx kk
theorem gX12_40 (h : Cx p s m args meth c G cc nL own) {index a : Nat} (hl : Cond.fieldLink own index "BasketCapModel" "bears" "[I" ∈ WS) (d : decode cc pc = .ok (.getfield index, 3)) (ha : (shM a).1 = 12) (kk : AW p l e R s m args below meth c Q cells slots G nL (pc + 3) lv (.ref (17) :: st) shM νM (ovM σ)) : AW p l e R s m args below meth c Q cells slots G nL pc lv (.ref a :: st) shM νM (ovM σ) :=
  hg_get h 40 cf_X12 (by decide) hl (v := .ref (17)) (fv_ref (Or.inr ⟨_, rfl⟩) (rf_12_40 ha)) d (shM_e ha) kk
theorem gX12_41 (h : Cx p s m args meth c G cc nL own) {index a : Nat} (hl : Cond.fieldLink own index "BasketCapModel" "tradeWorth" "I" ∈ WS) (d : decode cc pc = .ok (.getfield index, 3)) (ha : (shM a).1 = 12) (kk : AW p l e R s m args below meth c Q cells slots G nL (pc + 3) lv (.int (σ.1 a 41) :: st) shM νM (ovM σ)) : AW p l e R s m args below meth c Q cells slots G nL pc lv (.ref a :: st) shM νM (ovM σ) :=
  hg_get h 41 cf_X12 (by decide) hl (v := .int (σ.1 a 41)) rfl d (shM_e ha) kk
theorem pX12_41 (h : Cx p s m args meth c G cc nL own) {index a : Nat} {x : Int32} (hl : Cond.fieldLink own index "BasketCapModel" "tradeWorth" "I" ∈ WS) (d : decode cc pc = .ok (.putfield index, 3)) (ha : (shM a).1 = 12) (he : si σ a 41 x = σ1) (kk : AW p l e R s m args below meth c Q cells slots G nL (pc + 3) lv st shM νM (ovM σ1)) : AW p l e R s m args below meth c Q cells slots G nL pc lv (.int x :: .ref a :: st) shM νM (ovM σ) := by
  subst he
  exact hg_puti h 41 cf_X12 (by decide) hl rfl rfl d (shM_e ha) kk
theorem gX12_42 (h : Cx p s m args meth c G cc nL own) {index a : Nat} (hl : Cond.fieldLink own index "BasketCapModel" "tradeUp" "I" ∈ WS) (d : decode cc pc = .ok (.getfield index, 3)) (ha : (shM a).1 = 12) (kk : AW p l e R s m args below meth c Q cells slots G nL (pc + 3) lv (.int (σ.1 a 42) :: st) shM νM (ovM σ)) : AW p l e R s m args below meth c Q cells slots G nL pc lv (.ref a :: st) shM νM (ovM σ) :=
  hg_get h 42 cf_X12 (by decide) hl (v := .int (σ.1 a 42)) rfl d (shM_e ha) kk
theorem pX12_42 (h : Cx p s m args meth c G cc nL own) {index a : Nat} {x : Int32} (hl : Cond.fieldLink own index "BasketCapModel" "tradeUp" "I" ∈ WS) (d : decode cc pc = .ok (.putfield index, 3)) (ha : (shM a).1 = 12) (he : si σ a 42 x = σ1) (kk : AW p l e R s m args below meth c Q cells slots G nL (pc + 3) lv st shM νM (ovM σ1)) : AW p l e R s m args below meth c Q cells slots G nL pc lv (.int x :: .ref a :: st) shM νM (ovM σ) := by
  subst he
  exact hg_puti h 42 cf_X12 (by decide) hl rfl rfl d (shM_e ha) kk
theorem gX12_43 (h : Cx p s m args meth c G cc nL own) {index a : Nat} (hl : Cond.fieldLink own index "BasketCapModel" "tradeDown" "I" ∈ WS) (d : decode cc pc = .ok (.getfield index, 3)) (ha : (shM a).1 = 12) (kk : AW p l e R s m args below meth c Q cells slots G nL (pc + 3) lv (.int (σ.1 a 43) :: st) shM νM (ovM σ)) : AW p l e R s m args below meth c Q cells slots G nL pc lv (.ref a :: st) shM νM (ovM σ) :=
  hg_get h 43 cf_X12 (by decide) hl (v := .int (σ.1 a 43)) rfl d (shM_e ha) kk
theorem pX12_43 (h : Cx p s m args meth c G cc nL own) {index a : Nat} {x : Int32} (hl : Cond.fieldLink own index "BasketCapModel" "tradeDown" "I" ∈ WS) (d : decode cc pc = .ok (.putfield index, 3)) (ha : (shM a).1 = 12) (he : si σ a 43 x = σ1) (kk : AW p l e R s m args below meth c Q cells slots G nL (pc + 3) lv st shM νM (ovM σ1)) : AW p l e R s m args below meth c Q cells slots G nL pc lv (.int x :: .ref a :: st) shM νM (ovM σ) := by
  subst he
  exact hg_puti h 43 cf_X12 (by decide) hl rfl rfl d (shM_e ha) kk
theorem gX12_44 (h : Cx p s m args meth c G cc nL own) {index a : Nat} (hl : Cond.fieldLink own index "BasketCapModel" "tradeBy" "I" ∈ WS) (d : decode cc pc = .ok (.getfield index, 3)) (ha : (shM a).1 = 12) (kk : AW p l e R s m args below meth c Q cells slots G nL (pc + 3) lv (.int (σ.1 a 44) :: st) shM νM (ovM σ)) : AW p l e R s m args below meth c Q cells slots G nL pc lv (.ref a :: st) shM νM (ovM σ) :=
  hg_get h 44 cf_X12 (by decide) hl (v := .int (σ.1 a 44)) rfl d (shM_e ha) kk
theorem pX12_44 (h : Cx p s m args meth c G cc nL own) {index a : Nat} {x : Int32} (hl : Cond.fieldLink own index "BasketCapModel" "tradeBy" "I" ∈ WS) (d : decode cc pc = .ok (.putfield index, 3)) (ha : (shM a).1 = 12) (he : si σ a 44 x = σ1) (kk : AW p l e R s m args below meth c Q cells slots G nL (pc + 3) lv st shM νM (ovM σ1)) : AW p l e R s m args below meth c Q cells slots G nL pc lv (.int x :: .ref a :: st) shM νM (ovM σ) := by
  subst he
  exact hg_puti h 44 cf_X12 (by decide) hl rfl rfl d (shM_e ha) kk
theorem gX12_45 (h : Cx p s m args meth c G cc nL own) {index a : Nat} (hl : Cond.fieldLink own index "BasketCapModel" "ink" "[I" ∈ WS) (d : decode cc pc = .ok (.getfield index, 3)) (ha : (shM a).1 = 12) (kk : AW p l e R s m args below meth c Q cells slots G nL (pc + 3) lv (.ref (18) :: st) shM νM (ovM σ)) : AW p l e R s m args below meth c Q cells slots G nL pc lv (.ref a :: st) shM νM (ovM σ) :=
  hg_get h 45 cf_X12 (by decide) hl (v := .ref (18)) (fv_ref (Or.inr ⟨_, rfl⟩) (rf_12_45 ha)) d (shM_e ha) kk
theorem gX12_46 (h : Cx p s m args meth c G cc nL own) {index a : Nat} (hl : Cond.fieldLink own index "BasketCapModel" "inked" "I" ∈ WS) (d : decode cc pc = .ok (.getfield index, 3)) (ha : (shM a).1 = 12) (kk : AW p l e R s m args below meth c Q cells slots G nL (pc + 3) lv (.int (σ.1 a 46) :: st) shM νM (ovM σ)) : AW p l e R s m args below meth c Q cells slots G nL pc lv (.ref a :: st) shM νM (ovM σ) :=
  hg_get h 46 cf_X12 (by decide) hl (v := .int (σ.1 a 46)) rfl d (shM_e ha) kk
theorem pX12_46 (h : Cx p s m args meth c G cc nL own) {index a : Nat} {x : Int32} (hl : Cond.fieldLink own index "BasketCapModel" "inked" "I" ∈ WS) (d : decode cc pc = .ok (.putfield index, 3)) (ha : (shM a).1 = 12) (he : si σ a 46 x = σ1) (kk : AW p l e R s m args below meth c Q cells slots G nL (pc + 3) lv st shM νM (ovM σ1)) : AW p l e R s m args below meth c Q cells slots G nL pc lv (.int x :: .ref a :: st) shM νM (ovM σ) := by
  subst he
  exact hg_puti h 46 cf_X12 (by decide) hl rfl rfl d (shM_e ha) kk
theorem gX12_47 (h : Cx p s m args meth c G cc nL own) {index a : Nat} (hl : Cond.fieldLink own index "BasketCapModel" "gameWorth" "I" ∈ WS) (d : decode cc pc = .ok (.getfield index, 3)) (ha : (shM a).1 = 12) (kk : AW p l e R s m args below meth c Q cells slots G nL (pc + 3) lv (.int (σ.1 a 47) :: st) shM νM (ovM σ)) : AW p l e R s m args below meth c Q cells slots G nL pc lv (.ref a :: st) shM νM (ovM σ) :=
  hg_get h 47 cf_X12 (by decide) hl (v := .int (σ.1 a 47)) rfl d (shM_e ha) kk
theorem pX12_47 (h : Cx p s m args meth c G cc nL own) {index a : Nat} {x : Int32} (hl : Cond.fieldLink own index "BasketCapModel" "gameWorth" "I" ∈ WS) (d : decode cc pc = .ok (.putfield index, 3)) (ha : (shM a).1 = 12) (he : si σ a 47 x = σ1) (kk : AW p l e R s m args below meth c Q cells slots G nL (pc + 3) lv st shM νM (ovM σ1)) : AW p l e R s m args below meth c Q cells slots G nL pc lv (.int x :: .ref a :: st) shM νM (ovM σ) := by
  subst he
  exact hg_puti h 47 cf_X12 (by decide) hl rfl rfl d (shM_e ha) kk
theorem gX12_48 (h : Cx p s m args meth c G cc nL own) {index a : Nat} (hl : Cond.fieldLink own index "BasketCapModel" "gameService" "I" ∈ WS) (d : decode cc pc = .ok (.getfield index, 3)) (ha : (shM a).1 = 12) (kk : AW p l e R s m args below meth c Q cells slots G nL (pc + 3) lv (.int (σ.1 a 48) :: st) shM νM (ovM σ)) : AW p l e R s m args below meth c Q cells slots G nL pc lv (.ref a :: st) shM νM (ovM σ) :=
  hg_get h 48 cf_X12 (by decide) hl (v := .int (σ.1 a 48)) rfl d (shM_e ha) kk
theorem pX12_48 (h : Cx p s m args meth c G cc nL own) {index a : Nat} {x : Int32} (hl : Cond.fieldLink own index "BasketCapModel" "gameService" "I" ∈ WS) (d : decode cc pc = .ok (.putfield index, 3)) (ha : (shM a).1 = 12) (he : si σ a 48 x = σ1) (kk : AW p l e R s m args below meth c Q cells slots G nL (pc + 3) lv st shM νM (ovM σ1)) : AW p l e R s m args below meth c Q cells slots G nL pc lv (.int x :: .ref a :: st) shM νM (ovM σ) := by
  subst he
  exact hg_puti h 48 cf_X12 (by decide) hl rfl rfl d (shM_e ha) kk
theorem gX12_49 (h : Cx p s m args meth c G cc nL own) {index a : Nat} (hl : Cond.fieldLink own index "BasketCapModel" "gamePrice" "I" ∈ WS) (d : decode cc pc = .ok (.getfield index, 3)) (ha : (shM a).1 = 12) (kk : AW p l e R s m args below meth c Q cells slots G nL (pc + 3) lv (.int (σ.1 a 49) :: st) shM νM (ovM σ)) : AW p l e R s m args below meth c Q cells slots G nL pc lv (.ref a :: st) shM νM (ovM σ) :=
  hg_get h 49 cf_X12 (by decide) hl (v := .int (σ.1 a 49)) rfl d (shM_e ha) kk
theorem pX12_49 (h : Cx p s m args meth c G cc nL own) {index a : Nat} {x : Int32} (hl : Cond.fieldLink own index "BasketCapModel" "gamePrice" "I" ∈ WS) (d : decode cc pc = .ok (.putfield index, 3)) (ha : (shM a).1 = 12) (he : si σ a 49 x = σ1) (kk : AW p l e R s m args below meth c Q cells slots G nL (pc + 3) lv st shM νM (ovM σ1)) : AW p l e R s m args below meth c Q cells slots G nL pc lv (.int x :: .ref a :: st) shM νM (ovM σ) := by
  subst he
  exact hg_puti h 49 cf_X12 (by decide) hl rfl rfl d (shM_e ha) kk
theorem gX12_50 (h : Cx p s m args meth c G cc nL own) {index a : Nat} (hl : Cond.fieldLink own index "BasketCapModel" "gameFirst" "I" ∈ WS) (d : decode cc pc = .ok (.getfield index, 3)) (ha : (shM a).1 = 12) (kk : AW p l e R s m args below meth c Q cells slots G nL (pc + 3) lv (.int (σ.1 a 50) :: st) shM νM (ovM σ)) : AW p l e R s m args below meth c Q cells slots G nL pc lv (.ref a :: st) shM νM (ovM σ) :=
  hg_get h 50 cf_X12 (by decide) hl (v := .int (σ.1 a 50)) rfl d (shM_e ha) kk
theorem pX12_50 (h : Cx p s m args meth c G cc nL own) {index a : Nat} {x : Int32} (hl : Cond.fieldLink own index "BasketCapModel" "gameFirst" "I" ∈ WS) (d : decode cc pc = .ok (.putfield index, 3)) (ha : (shM a).1 = 12) (he : si σ a 50 x = σ1) (kk : AW p l e R s m args below meth c Q cells slots G nL (pc + 3) lv st shM νM (ovM σ1)) : AW p l e R s m args below meth c Q cells slots G nL pc lv (.int x :: .ref a :: st) shM νM (ovM σ) := by
  subst he
  exact hg_puti h 50 cf_X12 (by decide) hl rfl rfl d (shM_e ha) kk
theorem iaC (h : Cx p s m args meth c G cc nL own) {a n : Nat} {i : Int32} (d : decode cc pc = .ok (.iaload, 1)) (ha : shC a = (20, n)) (hi : ib i n) (kk : AW p l e R s m args below meth c Q cells slots G nL (pc + 1) lv (.int (σ.1 a (ix i)) :: st) shC νC (ovC σ)) : AW p l e R s m args below meth c Q cells slots G nL pc lv (.int i :: .ref a :: st) shC νC (ovC σ) :=
  st_iaload h d ha hi kk
theorem laC (h : Cx p s m args meth c G cc nL own) {a n : Nat} {i : Int32} (d : decode cc pc = .ok (.laload, 1)) (ha : shC a = (21, n)) (hi : ib i n) (kk : AW p l e R s m args below meth c Q cells slots G nL (pc + 1) lv (.long (σ.2.1 a (ix i)) :: st) shC νC (ovC σ)) : AW p l e R s m args below meth c Q cells slots G nL pc lv (.int i :: .ref a :: st) shC νC (ovC σ) :=
  st_laload h d ha hi kk
theorem baC (h : Cx p s m args meth c G cc nL own) {a n : Nat} {i : Int32} (d : decode cc pc = .ok (.baload, 1)) (ha : shC a = (22, n)) (hi : ib i n) (kk : AW p l e R s m args below meth c Q cells slots G nL (pc + 1) lv (.int (σ.1 a (ix i)) :: st) shC νC (ovC σ)) : AW p l e R s m args below meth c Q cells slots G nL pc lv (.int i :: .ref a :: st) shC νC (ovC σ) :=
  st_baload h d ha hi kk
theorem isC (h : Cx p s m args meth c G cc nL own) {a n : Nat} {i x : Int32} (d : decode cc pc = .ok (.iastore, 1)) (ha : shC a = (20, n)) (hi : ib i n) (he : si σ a (ix i) x = σ1) (kk : AW p l e R s m args below meth c Q cells slots G nL (pc + 1) lv st shC νC (ovC σ1)) : AW p l e R s m args below meth c Q cells slots G nL pc lv (.int x :: .int i :: .ref a :: st) shC νC (ovC σ) := by
  subst he
  exact st_iastore h d ha hi rfl kk
theorem lsC (h : Cx p s m args meth c G cc nL own) {a n : Nat} {i : Int32} {x : Int64} (d : decode cc pc = .ok (.lastore, 1)) (ha : shC a = (21, n)) (hi : ib i n) (he : sj σ a (ix i) x = σ1) (kk : AW p l e R s m args below meth c Q cells slots G nL (pc + 1) lv st shC νC (ovC σ1)) : AW p l e R s m args below meth c Q cells slots G nL pc lv (.long x :: .int i :: .ref a :: st) shC νC (ovC σ) := by
  subst he
  exact st_lastore h d ha hi rfl kk
theorem bsC (h : Cx p s m args meth c G cc nL own) {a n : Nat} {i x : Int32} (d : decode cc pc = .ok (.bastore, 1)) (ha : shC a = (22, n)) (hi : ib i n) (hx : x = 0 ∨ x = 1) (he : si σ a (ix i) x = σ1) (kk : AW p l e R s m args below meth c Q cells slots G nL (pc + 1) lv st shC νC (ovC σ1)) : AW p l e R s m args below meth c Q cells slots G nL pc lv (.int x :: .int i :: .ref a :: st) shC νC (ovC σ) := by
  subst he
  exact st_bastore h d ha hi hx rfl kk
theorem cpC (h : Cx p s m args meth c G cc nL own) {index a0 a n0 n1 : Nat} {sp dp n : Int32} (hl : Cond.methodLink own index arraycopyName ∈ WS) (d : decode cc pc = .ok (.invokestatic index, 3)) (ha0 : shC a0 = (20, n0)) (ha : shC a = (20, n1)) (h1 : ¬ sp < 0) (h2 : ¬ dp < 0) (h3 : ¬ n < 0) (h4 : ix sp + ix n ≤ n0) (h5 : ix dp + ix n ≤ n1) (hR : 1 ≤ R.frames ∧ 40 ≤ R.locals) (he : sI σ a (va_cpy (σ.1 a0) (σ.1 a) (ix sp) (ix dp) (ix n)) = σ1) (kk : AW p l e R s m args below meth c Q cells slots G nL (pc + 3) lv [] shC νC (ovC σ1)) : AW p l e R s m args below meth c Q cells slots G nL pc lv [.int n, .int dp, .ref a, .int sp, .ref a0] shC νC (ovC σ) := by
  subst he
  exact st_copy h hl mt_copy.1 mt_copy.2.1 mt_copy.2.2 d ha0 ha h1 h2 h3 h4 h5 hR rfl rfl kk
theorem iaM (h : Cx p s m args meth c G cc nL own) {a n : Nat} {i : Int32} (d : decode cc pc = .ok (.iaload, 1)) (ha : shM a = (20, n)) (hi : ib i n) (kk : AW p l e R s m args below meth c Q cells slots G nL (pc + 1) lv (.int (σ.1 a (ix i)) :: st) shM νM (ovM σ)) : AW p l e R s m args below meth c Q cells slots G nL pc lv (.int i :: .ref a :: st) shM νM (ovM σ) :=
  st_iaload h d ha hi kk
theorem laM (h : Cx p s m args meth c G cc nL own) {a n : Nat} {i : Int32} (d : decode cc pc = .ok (.laload, 1)) (ha : shM a = (21, n)) (hi : ib i n) (kk : AW p l e R s m args below meth c Q cells slots G nL (pc + 1) lv (.long (σ.2.1 a (ix i)) :: st) shM νM (ovM σ)) : AW p l e R s m args below meth c Q cells slots G nL pc lv (.int i :: .ref a :: st) shM νM (ovM σ) :=
  st_laload h d ha hi kk
theorem baM (h : Cx p s m args meth c G cc nL own) {a n : Nat} {i : Int32} (d : decode cc pc = .ok (.baload, 1)) (ha : shM a = (22, n)) (hi : ib i n) (kk : AW p l e R s m args below meth c Q cells slots G nL (pc + 1) lv (.int (σ.1 a (ix i)) :: st) shM νM (ovM σ)) : AW p l e R s m args below meth c Q cells slots G nL pc lv (.int i :: .ref a :: st) shM νM (ovM σ) :=
  st_baload h d ha hi kk
theorem isM (h : Cx p s m args meth c G cc nL own) {a n : Nat} {i x : Int32} (d : decode cc pc = .ok (.iastore, 1)) (ha : shM a = (20, n)) (hi : ib i n) (he : si σ a (ix i) x = σ1) (kk : AW p l e R s m args below meth c Q cells slots G nL (pc + 1) lv st shM νM (ovM σ1)) : AW p l e R s m args below meth c Q cells slots G nL pc lv (.int x :: .int i :: .ref a :: st) shM νM (ovM σ) := by
  subst he
  exact st_iastore h d ha hi rfl kk
theorem lsM (h : Cx p s m args meth c G cc nL own) {a n : Nat} {i : Int32} {x : Int64} (d : decode cc pc = .ok (.lastore, 1)) (ha : shM a = (21, n)) (hi : ib i n) (he : sj σ a (ix i) x = σ1) (kk : AW p l e R s m args below meth c Q cells slots G nL (pc + 1) lv st shM νM (ovM σ1)) : AW p l e R s m args below meth c Q cells slots G nL pc lv (.long x :: .int i :: .ref a :: st) shM νM (ovM σ) := by
  subst he
  exact st_lastore h d ha hi rfl kk
theorem bsM (h : Cx p s m args meth c G cc nL own) {a n : Nat} {i x : Int32} (d : decode cc pc = .ok (.bastore, 1)) (ha : shM a = (22, n)) (hi : ib i n) (hx : x = 0 ∨ x = 1) (he : si σ a (ix i) x = σ1) (kk : AW p l e R s m args below meth c Q cells slots G nL (pc + 1) lv st shM νM (ovM σ1)) : AW p l e R s m args below meth c Q cells slots G nL pc lv (.int x :: .int i :: .ref a :: st) shM νM (ovM σ) := by
  subst he
  exact st_bastore h d ha hi hx rfl kk
theorem cpM (h : Cx p s m args meth c G cc nL own) {index a0 a n0 n1 : Nat} {sp dp n : Int32} (hl : Cond.methodLink own index arraycopyName ∈ WS) (d : decode cc pc = .ok (.invokestatic index, 3)) (ha0 : shM a0 = (20, n0)) (ha : shM a = (20, n1)) (h1 : ¬ sp < 0) (h2 : ¬ dp < 0) (h3 : ¬ n < 0) (h4 : ix sp + ix n ≤ n0) (h5 : ix dp + ix n ≤ n1) (hR : 1 ≤ R.frames ∧ 40 ≤ R.locals) (he : sI σ a (va_cpy (σ.1 a0) (σ.1 a) (ix sp) (ix dp) (ix n)) = σ1) (kk : AW p l e R s m args below meth c Q cells slots G nL (pc + 3) lv [] shM νM (ovM σ1)) : AW p l e R s m args below meth c Q cells slots G nL pc lv [.int n, .int dp, .ref a, .int sp, .ref a0] shM νM (ovM σ) := by
  subst he
  exact st_copy h hl mt_copy.1 mt_copy.2.1 mt_copy.2.2 d ha0 ha h1 h2 h3 h4 h5 hR rfl rfl kk
theorem aaY (h : Cx p s m args meth c G cc nL own) {i : Int32} (d : decode cc pc = .ok (.aaload, 1)) (hi : ib i 10) (kk : AW p l e R s m args below meth c Q cells slots G nL (pc + 1) lv (.ref (12 + 5 * ix i) :: st) shC νC (ovC σ)) : AW p l e R s m args below meth c Q cells slots G nL pc lv (.int i :: .ref 11 :: st) shC νC (ovC σ) :=
  st_aaloadY h d kC_11 hi rf_24 kk
theorem aaI (h : Cx p s m args meth c G cc nL own) {i : Int32} (d : decode cc pc = .ok (.aaload, 1)) (hi : ib i 2) (kk : AW p l e R s m args below meth c Q cells slots G nL (pc + 1) lv (.ref (118 + 8 * ix i) :: st) shC νC (ovC σ)) : AW p l e R s m args below meth c Q cells slots G nL pc lv (.int i :: .ref 62 :: st) shC νC (ovC σ) :=
  st_aaloadM h d kC_62 hi rf_23 kk
end AWW
