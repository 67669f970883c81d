/-! PATH, IN THE CLASS -/
theorem of_bd {μ : Nat → Int} {n c : Nat} (g : Gd μ n c) : 0 ≤ of1 μ n 0 ∧ of1 μ n 0 ≤ 80 := by
  have := sz_bd (n := n) (f := fun s => if μ (7 * s + 0) ≤ μ (7 * s + 4) then μ (7 * s + 4) - μ (7 * s + 0) else μ (7 * s + 0) - μ (7 * s + 4)) (a := 0) (b := 20) (fun s hs => by
    have a := (g.2.1 s hs).2.2.1
    have b := (g.2.2.1 s hs).1
    rw [Nat.add_zero]
    split <;> omega)
  have := g.1.2.1
  unfold of1
  omega
def WkE (σ : Sto) (n : Nat) (μ : Nat → Int) (j : Nat) : Prop := σ.1 97 (4 * j) = zI (paP μ n j) ∧ σ.1 97 (4 * j + 1) = zI (paG μ n j) ∧ σ.1 97 (4 * j + 2) = zI (of1 (ah μ n j) n 0) ∧ σ.1 97 (4 * j + 3) = zI (paO μ n j)
def WkF (σ τ : Sto) : Prop := (∀ a k, ¬ (63 ≤ a ∧ a ≤ 74) → ¬ (85 ≤ a ∧ a ≤ 91) → a ≠ 97 → ¬ (a = 84 ∧ k = 6) → τ.1 a k = σ.1 a k) ∧ τ.2 = σ.2
theorem WkF_rfl (σ : Sto) : WkF σ σ := ⟨fun _ _ _ _ _ _ => rfl, rfl⟩
theorem WkF_tr {σ τ υ : Sto} (h : WkF σ τ) (k : WkF τ υ) : WkF σ υ := ⟨fun a j q1 q2 q3 q4 => (k.1 a j q1 q2 q3 q4).trans (h.1 a j q1 q2 q3 q4), k.2.trans h.2⟩
theorem c_step {σ : Sto} {t n c k : Nat} {μ : Nat → Int} (hk : k < 8) (l4 : t = 102 ∨ t = 110) (Y : YQ σ 87 (ah μ n k) n) (ht : TR σ t μ n) (g : Gd (ah μ n k) n c) (hc : c + 1 ≤ 120) (W : WkE σ n μ k) : ∃ τ, F_X4_step σ t (zI (k * 4)) = some τ ∧ WkF σ τ ∧ YQ τ 87 (ah μ n (k + 1)) n ∧ WkE τ n μ (k + 1) ∧ ∀ i, i < 4 * k + 4 → τ.1 97 i = σ.1 97 i := by
  have T := tC_t l4
  have h4 := g.1.2.1
  have stk := ah_sT (μ := μ) h4 k
  obtain ⟨x1, b1, ⟨x2, b2, b3, b4⟩, -⟩ := c_plain (a2 := 85) yC_87 (by omega) T (by omega) Y (TR_sT stk ht) g (by decide) (by omega)
  obtain ⟨-, q, b6, b7, b8⟩ := FnR_some b4 (Fea0 (nb := 0) g (fun b hb => by omega))
  have eq := bR_eq g b6
  have qb := bR_bd g
  have lE : lay1 (ah μ n k) n q = lay1 (ah μ n k) n (bR (ah μ n k) n) := lay1_eq _ eq
  have eV : vl n (prw (ah μ n k)) q = vl n (prw μ) (bR (ah μ n k) n) := by rw [vl_cg eq, vl_eq (EqN_prw stk)]
  have gl : Gd (lay1 (ah μ n k) n (bR (ah μ n k) n)) n c := lay1_Gd g qb
  have gn : Gd (ah μ n (k + 1)) n (c + 1) := en_Gd gl hc
  have Y2 : YQ x2 87 (ah μ n k) n := by
    unfold YQ at *
    rw [b3.1 87 (by omega) (by omega) (by omega), b3.1 (87 + 1) (by omega) (by omega) (by omega), b3.1 (87 + 3) (by omega) (by omega) (by omega), b3.1 (87 + 4) (by omega) (by omega) (by omega)]
    exact Y
  have T2 : TR x2 t μ n := TR_fr ht (fun a j i1 i2 => by rw [b3.1 a (by omega) (by omega) (by omega)])
  have b8' : ∀ s, s < n → x2.1 86 s = zI (bR (ah μ n k) n s) := fun s hs => by rw [← eq s hs]; exact b8 s hs
  unfold F_X4_step
  rw [b1, Option.bind_some, if_pos T.1, b2, Option.bind_some]
  have key : ∀ (m s j : Nat) (v : Int32) (τ : Sto), s + m = n → m < j → (∀ a i, ¬ (a = 89 ∧ i < 4) → τ.1 a i = x2.1 a i) → τ.2 = x2.2 → (∀ u, u < s → τ.1 89 u = zI (bR (ah μ n k) n u)) → ((v = 0 ∧ ∀ u, u < s → bR (ah μ n k) n u = ah μ n k (7 * u)) ∨ (v = 1 ∧ ∃ u, u < s ∧ bR (ah μ n k) n u ≠ ah μ n k (7 * u))) →
      ∃ υ, F_X4_step_32 j τ t (zI (k * 4)) v (zI s) = some υ ∧ WkF σ υ ∧ YQ υ 87 (ah μ n (k + 1)) n ∧ WkE υ n μ (k + 1) ∧ ∀ i, i < 4 * k + 4 → υ.1 97 i = σ.1 97 i := by
    intro m
    induction m with
    | zero =>
      intro s j v τ k1 k2 f f2 c1 c2
      obtain ⟨j, rfl⟩ : ∃ i, j = i + 1 := ⟨j - 1, by omega⟩
      have e : s = n := k1
      subst e
      have Yt : YR τ 87 (lay1 (ah μ s k) s (bR (ah μ s k) s)) s := by
        refine ⟨fun u hu => ?_, fun r hr => ?_, ?_⟩
        · rw [lay1_o (by omega), lay1_1 hu, lay1_o (by omega), f (87 + 1) u (by omega), f (87 + 3) u (by omega)]
          exact ⟨(Y2.1 u hu).1, c1 u hu, (Y2.1 u hu).2⟩
        · rw [lay1_o (by omega), f (87 + 4) r (by omega)]; exact Y2.2.1 r hr
        · rw [lay1_o (by omega), f 87 1 (by omega)]; exact Y2.2.2
      have Tt : TR τ t μ s := TR_fr T2 (fun a i i1 i2 => f a i (by omega))
      have stl : sT (lay1 (ah μ s k) s (bR (ah μ s k) s)) μ s := sT_tr (EqN_sT (lay1_N _ h4 _)) stk
      obtain ⟨y1, e1, e2, e3, e4, e5⟩ := y_end yC_87 T Yt (TR_sT stl Tt) gl
      have stn := ah_sT (μ := μ) h4 (k + 1)
      have e2' : YR y1 87 (ah μ s (k + 1)) s := e2
      have T1 : TR y1 t μ s := TR_fr Tt (fun a i i1 i2 => e4 a i (by omega) (by omega))
      have w97 : ∀ i, y1.1 97 i = σ.1 97 i := fun i => by rw [e4 97 i (by omega) (by omega), f 97 i (by omega), b3.1 97 (by omega) (by omega) (by omega)]
      have w85 : y1.1 85 2 = zI (vl s (prw μ) (bR (ah μ s k) s)) := by rw [e4 85 2 (by omega) (by omega), f 85 2 (by omega), b7, eV]
      have pq : ∀ u, u < s → y1.1 (87 + 1) u = zI (bR (ah μ s k) s u) ∧ 0 ≤ bR (ah μ s k) s u ∧ bR (ah μ s k) s u ≤ 20 := fun u hu => by
        refine ⟨?_, qb u hu⟩
        rw [(e2'.1 u hu).1]
        congr 1
        show en _ s (7 * u) = _
        rw [en_p h4 hu, lay1_1 hu]
      have s1r : ∀ (x : Sto), (∀ a i, a ≠ 97 → x.1 a i = y1.1 a i) → F_X9_together x t (t + 7) (87 + 1) = some (zI (vl s (gow μ) (bR (ah μ s k) s))) := fun x hx => by
        refine t_together (p := bR (ah μ s k) s) (B := gow μ) T.1 T.2.2.2 yC_87.2.1 ?_ h4 (fun u hu => ?_) (fun u hu p hp => ?_)
        · rw [hx t 0 (by omega)]; exact T1.1.1
        · rw [hx (87 + 1) u (by omega)]; exact pq u hu
        · rw [hx (t + 7) _ (by omega)]; exact t_go T1 u hu p hp
      have s2r : ∀ (x : Sto), (∀ a i, a ≠ 97 → x.1 a i = y1.1 a i) → F_X9_off x t (87 + 1) = some (zI (of1 (ah μ s (k + 1)) s 0)) := fun x hx => y_off0 yC_87 T (YR_fr e2' (fun a i i1 i2 => hx a i (by omega))) (TR_sT stn (TR_fr T1 (fun a i i1 i2 => hx a i (by omega)))).1 gn
      have fin : ∀ (z : Int), z = (if ∀ u, u < s → bR (ah μ s k) s u = ah μ s k (7 * u) then 0 else 1) → ∃ υ, some (si (si (si (si y1 97 (4 * k + 4) (zI (paP μ s k) + zI (vl s (prw μ) (bR (ah μ s k) s)))) 97 (4 * k + 5) (zI (paG μ s k) + zI (vl s (gow μ) (bR (ah μ s k) s)))) 97 (4 * k + 6) (zI (of1 (ah μ s (k + 1)) s 0))) 97 (4 * k + 7) (zI (paO μ s k) + zI z)) = some υ ∧ WkF σ υ ∧ YQ υ 87 (ah μ s (k + 1)) s ∧ WkE υ s μ (k + 1) ∧ ∀ i, i < 4 * k + 4 → υ.1 97 i = σ.1 97 i := by
        intro z hz
        refine ⟨_, rfl, ⟨fun a i i1 i2 i3 i4 => ?_, ?_⟩, ?_, ⟨?_, ?_, ?_, ?_⟩, fun i hi => ?_⟩
        · simp (disch := omega) only [si_rd, if_neg]
          rw [e4 a i (by omega) (by omega), f a i (by omega), b3.1 a (by omega) (by omega) (by omega)]
        · exact e5.trans (f2.trans b3.2)
        · have := YR_Q e2'
          unfold YQ at *
          simp (disch := omega) only [si_rd, if_neg]
          exact this
        · rw [si_rd, if_neg (by omega), si_rd, if_neg (by omega), si_rd, if_neg (by omega), si_rd, if_pos (by omega), zI_add]; rfl
        · rw [si_rd, if_neg (by omega), si_rd, if_neg (by omega), si_rd, if_pos (by omega), zI_add]; rfl
        · rw [si_rd, if_neg (by omega), si_rd, if_pos (by omega)]
        · rw [si_rd, if_pos (by omega), zI_add, hz]; rfl
        · simp (disch := omega) only [si_rd, if_neg]
          exact w97 i
      rw [F_X4_step_32, if_pos T.1, f t 0 (by omega), T2.1.1, if_pos (zleT (by omega)), e1, Option.bind_some]
      have j0 : zI ((k : Int) * 4) + 0 = zI ((4 * k : Nat) : Int) := by rw [zl0, zI_add]; congr 1; omega
      have j4 : zI ((k : Int) * 4) + 4 + 0 = zI ((4 * k + 4 : Nat) : Int) := by rw [zl0, zl4, zI_add, zI_add]; congr 1; omega
      have j1 : zI ((k : Int) * 4) + 1 = zI ((4 * k + 1 : Nat) : Int) := by rw [zl1, zI_add]; congr 1; omega
      have j5 : zI ((k : Int) * 4) + 4 + 1 = zI ((4 * k + 5 : Nat) : Int) := by rw [zl1, zl4, zI_add, zI_add]; congr 1; omega
      have j6 : zI ((k : Int) * 4) + 4 + 2 = zI ((4 * k + 6 : Nat) : Int) := by rw [zl2, zl4, zI_add, zI_add]; congr 1; omega
      have j3 : zI ((k : Int) * 4) + 3 = zI ((4 * k + 3 : Nat) : Int) := by rw [zl3, zI_add]; congr 1; omega
      have j7 : zI ((k : Int) * 4) + 4 + 3 = zI ((4 * k + 7 : Nat) : Int) := by rw [zl3, zl4, zI_add, zI_add]; congr 1; omega
      have ibT : ∀ i : Nat, i < 36 → ib (zI (i : Int)) 36 := fun i hi => by rw [zI_ib (by omega) (by omega)]; omega
      have ixN : ∀ i : Nat, i < 36 → ix (zI (i : Int)) = i := fun i hi => by rw [zI_ix (by omega) (by omega)]; omega
      rw [j0, j4, j1, j5, j6, j3, j7, ixN (4 * k) (by omega), ixN (4 * k + 4) (by omega), ixN (4 * k + 1) (by omega), ixN (4 * k + 5) (by omega), ixN (4 * k + 6) (by omega), ixN (4 * k + 3) (by omega), ixN (4 * k + 7) (by omega)]
      rw [if_pos (ibT (4 * k) (by omega)), if_pos (ibT (4 * k + 4) (by omega)), sw, if_pos (ibT (4 * k + 1) (by omega)), s1r _ (fun a i ha => by rw [si_rd, if_neg (by omega)]), Option.bind_some, if_pos (ibT (4 * k + 5) (by omega)), sw, s2r _ (fun a i ha => by rw [si_rd, if_neg (by omega), si_rd, if_neg (by omega)]), Option.bind_some, if_pos (ibT (4 * k + 6) (by omega)), sw, if_pos (ibT (4 * k + 3) (by omega)), if_pos (ibT (4 * k + 7) (by omega)), if_pos (ibT (4 * k + 7) (by omega))]
      have w1 : (si y1 97 (4 * k + 4) (y1.1 97 (4 * k) + y1.1 85 2)).1 97 (4 * k + 1) = zI (paG μ s k) := by rw [si_rd, if_neg (by omega), w97]; exact W.2.1
      rw [w1, w97, W.1, w85]
      have w3 : (si (si (si y1 97 (4 * k + 4) (zI (paP μ s k) + zI (vl s (prw μ) (bR (ah μ s k) s)))) 97 (4 * k + 5) (zI (paG μ s k) + zI (vl s (gow μ) (bR (ah μ s k) s)))) 97 (4 * k + 6) (zI (of1 (ah μ s (k + 1)) s 0))).1 97 (4 * k + 3) = zI (paO μ s k) := by
        simp (disch := omega) only [si_rd, if_neg]
        rw [w97]; exact W.2.2.2
      rw [w3]
      rcases c2 with ⟨v0, hv⟩ | ⟨v0, u, hu, hv⟩
      · rw [v0, if_pos rfl]
        exact fin 0 (by rw [if_pos hv])
      · rw [v0, if_neg (by decide)]
        exact fin 1 (by rw [if_neg (fun h => hv (h u hu))])
    | succ m ih =>
      intro s j v τ k1 k2 f f2 c1 c2
      obtain ⟨j, rfl⟩ : ∃ i, j = i + 1 := ⟨j - 1, by omega⟩
      have hs : s < n := by omega
      have r86 : τ.1 (85 + 1) s = zI (bR (ah μ n k) n s) := by rw [f (85 + 1) s (by omega)]; exact b8' s hs
      have r88 : τ.1 (87 + 1) s = zI (ah μ n k (7 * s)) := by rw [f (87 + 1) s (by omega)]; exact (Y2.1 s hs).1
      have pb := (g.2.2.1 s hs).1
      have qs := qb s hs
      have nx : ∀ v', ((v' = 0 ∧ ∀ u, u < s + 1 → bR (ah μ n k) n u = ah μ n k (7 * u)) ∨ (v' = 1 ∧ ∃ u, u < s + 1 ∧ bR (ah μ n k) n u ≠ ah μ n k (7 * u))) → ∃ υ, F_X4_step_73 (F_X4_step_32 j) τ t (zI (k * 4)) (zI s) v' = some υ ∧ WkF σ υ ∧ YQ υ 87 (ah μ n (k + 1)) n ∧ WkE υ n μ (k + 1) ∧ ∀ i, i < 4 * k + 4 → υ.1 97 i = σ.1 97 i := by
        intro v' hv
        unfold F_X4_step_73
        simp (disch := omega) only [zI_ib, zI_ix, Int.toNat_natCast]
        rw [if_pos (by omega), sw, r86, zI_s1]
        refine ih (s + 1) j v' _ (by omega) (by omega) (fun a i q => ?_) f2 (fun u hu => ?_) hv
        · rw [si_rd, if_neg (by omega)]; exact f a i q
        · rw [si_rd]
          by_cases e : u = s
          · rw [if_pos ⟨rfl, e⟩, e]
          · rw [if_neg (by omega)]; exact c1 u (by omega)
      rw [F_X4_step_32, if_pos T.1, f t 0 (by omega), T2.1.1, if_neg (zleF (by omega))]
      rcases c2 with ⟨v0, hv⟩ | ⟨v0, u, hu, hv⟩
      · rw [v0, if_pos rfl]
        simp (disch := omega) only [zI_ib, zI_ix, Int.toNat_natCast]
        rw [if_pos (by omega), r86, r88]
        by_cases e : bR (ah μ n k) n s = ah μ n k (7 * s)
        · rw [if_pos (by rw [e])]
          refine nx 0 (Or.inl ⟨rfl, fun u hu => ?_⟩)
          by_cases e2 : u = s
          · rw [e2]; exact e
          · exact hv u (by omega)
        · rw [if_neg (by rw [zI_eq (by omega) (by omega) (by omega) (by omega)]; exact e)]
          exact nx 1 (Or.inr ⟨rfl, s, by omega, e⟩)
      · rw [v0, if_neg (by decide)]
        exact nx 1 (Or.inr ⟨rfl, u, by omega, hv⟩)
  exact key n 0 FU 0 x2 (by omega) (FU_lt (by omega)) (fun _ _ _ => rfl) rfl (fun u hu => by omega) (Or.inl ⟨rfl, fun u hu => by omega⟩)
theorem c_walk {σ σM : Sto} {n nb t hd ac m : Nat} {μ : Nat → Int} {un : Nat → Nat → Int} (l : Ld σ σM n nb t hd ac μ un) (c : Ca σ n nb μ un) (hm : m ≤ 8) : ∃ τ, F_X4_walk σ t 3 (zI m) = some τ ∧ AgC σ τ ∧ Ca τ n nb μ un ∧ WkE τ n μ m := by
  obtain ⟨⟨l1, l2, l3, l4⟩, ⟨g, g8, g9⟩, -, ⟨hy, hyn⟩, ht, hb, -⟩ := l
  have T := tC_t l4
  have h4 := g.1.2.1
  have fin : ∀ τ k, WkF σ τ → k ≤ 8 → m ≤ k → τ.1 84 6 = zI k → YQ τ 87 (ah μ n k) n → (∀ j, j ≤ k → WkE τ n μ j) → AgC σ τ ∧ Ca τ n nb μ un ∧ WkE τ n μ m := by
    intro τ k f k8 mk e6 Y W
    refine ⟨⟨fun a i q => f.1 a i (by omega) (by omega) (by omega) (by omega), f.2⟩, ?_, W m mk⟩
    obtain ⟨⟨o1, o2, o3, o4, o5⟩, cw, cg, cn⟩ := c
    refine ⟨⟨?_, ?_, ?_, ?_, ?_⟩, Or.inr ⟨k, k8, e6, Y, W⟩, ?_, ?_⟩
    · unfold RwK at *; simp (disch := omega) only [f.1]; exact o1
    · unfold RwK at *; simp (disch := omega) only [f.1]; exact o2
    · unfold RwK at *; simp (disch := omega) only [f.1]; exact o3
    · unfold RwK at *; simp (disch := omega) only [f.1]; exact o4
    · simp (disch := omega) only [f.1]; exact o5
    · unfold CG at *; simp (disch := omega) only [f.1]; exact cg
    · unfold CN at *; simp (disch := omega) only [f.1]; exact cn
  have loop : ∀ (d k j : Nat) (τ : Sto), k + d = 8 → d < j → WkF σ τ → τ.1 84 6 = zI k → YQ τ 87 (ah μ n k) n → (∀ i, i ≤ k → WkE τ n μ i) → ∃ υ, F_X4_walk_65 j τ t (zI m) (zI k) = some υ ∧ AgC σ υ ∧ Ca υ n nb μ un ∧ WkE υ n μ m := by
    intro d
    induction d with
    | zero =>
      intro k j τ k1 k2 f e6 Y W
      obtain ⟨j, rfl⟩ : ∃ i, j = i + 1 := ⟨j - 1, by omega⟩
      exact ⟨τ, by rw [F_X4_walk_65, if_pos (zleT (by omega))], fin τ k f (by omega) (by omega) e6 Y W⟩
    | succ d ih =>
      intro k j τ k1 k2 f e6 Y W
      obtain ⟨j, rfl⟩ : ∃ i, j = i + 1 := ⟨j - 1, by omega⟩
      by_cases q : m ≤ k
      · exact ⟨τ, by rw [F_X4_walk_65, if_pos (zleT (by omega))], fin τ k f (by omega) q e6 Y W⟩
      · obtain ⟨υ, u1, u2, u3, u4, u5⟩ := c_step (k := k) (by omega) l4 Y (TR_fr ht (fun a i i1 i2 => f.1 a i (by omega) (by omega) (by omega) (by omega))) (ah_Gd g k (by omega)) (by omega) (W k (Nat.le_refl _))
        rw [F_X4_walk_65, if_neg (zleF (by omega)), zl8, if_neg (zleF (by omega)), zl4, zI_mul, u1, Option.bind_some, sw, zI_s1]
        refine ih (k + 1) j _ (by omega) (by omega) (WkF_tr f (WkF_tr u2 ⟨fun a i q1 q2 q3 q4 => by rw [si_rd, if_neg q4], rfl⟩)) (by rw [si_rd, if_pos ⟨rfl, rfl⟩]) ?_ (fun i hi => ?_)
        · unfold YQ at *
          simp (disch := omega) only [si_rd, if_neg]
          exact u3
        · by_cases e : i = k + 1
          · subst e
            unfold WkE at *
            simp (disch := omega) only [si_rd, if_neg]
            exact u4
          · have := W i (by omega)
            unfold WkE at *
            simp (disch := omega) only [si_rd, if_neg, u5]
            exact this
  unfold F_X4_walk
  by_cases q : σ.1 84 6 = -1
  · rw [if_pos q]
    obtain ⟨y1, e1, e2, e3, e4⟩ := c_copy (Or.inl rfl) h4 hy
    rw [e1, Option.bind_some, sw, sw, if_pos T.1, show ix 0 = 0 from by decide, show ix 1 = 1 from by decide, show ix 2 = 2 from by decide, show ix 3 = 3 from by decide]
    have e5 : F_X9_off (si (si y1 97 0 0) 97 1 0) t (87 + 1) = some (zI (of1 μ n 0)) := by
      refine y_off0 (c := (μ 32).toNat) yC_87 T (YR_fr e4 (fun a i i1 i2 => ?_)) (TR_fr ht (fun a i i1 i2 => ?_)).1 g
      · rw [si_rd, if_neg (by omega), si_rd, if_neg (by omega)]
      · rw [si_rd, if_neg (by omega), si_rd, if_neg (by omega), e2 a i (by omega)]
    rw [e5, Option.bind_some, sw, sw, sw, show (si (si (si (si (si y1 97 0 0) 97 1 0) 97 2 (zI (of1 μ n 0))) 97 3 0) 84 6 0).1 84 6 = 0 from by rw [si_rd, if_pos ⟨rfl, rfl⟩]]
    refine loop 8 0 FU _ (by omega) (FU_lt (by omega)) ⟨fun a i i1 i2 i3 i4 => ?_, e3⟩ (by rw [si_rd, if_pos ⟨rfl, rfl⟩]; rfl) ?_ (fun i hi => ?_)
    · simp (disch := omega) only [si_rd, if_neg]
      exact e2 a i (by omega)
    · have := YR_Q e4
      show YQ _ 87 μ n
      unfold YQ at *
      simp (disch := omega) only [si_rd, if_neg]
      exact this
    · have e : i = 0 := by omega
      subst e
      refine ⟨?_, ?_, ?_, ?_⟩
      · simp (disch := omega) only [si_rd, if_neg, if_pos]; rfl
      · simp (disch := omega) only [si_rd, if_neg, if_pos]; rfl
      · simp (disch := omega) only [si_rd, if_neg, if_pos]; rfl
      · simp (disch := omega) only [si_rd, if_neg, if_pos]; rfl
  · rw [if_neg q]
    rcases c.2.1 with k | ⟨k, k1, k2, k3, k5⟩
    · exact absurd k q
    · rw [k2]
      exact loop (8 - k) k FU σ (by omega) (FU_lt (by omega)) (WkF_rfl σ) k2 k3 k5
