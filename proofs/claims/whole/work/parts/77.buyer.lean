/-! READING: A BUYER -/
theorem m_isS44 {σ τ : Sto} (h : TkR σ τ) (h7 : τ.1 0 7 = 0) : F_X12_isSign τ 44 = some (if σ.1 2 3 = 4 then 1 else 0) := by
  unfold F_X12_isSign
  rw [if_pos h7]
  rcases h.2 with ⟨a, b⟩ | ⟨a, b, -⟩ | ⟨a, b, -⟩ | ⟨a, b, c⟩ | ⟨a, b, c⟩ | ⟨a, b⟩
  · rw [a, b, if_neg (by decide), if_neg (by decide)]
  · rw [a, b, if_neg (by decide), if_neg (by decide)]
  · rw [a, b, if_neg (by decide), if_neg (by decide)]
  · rw [a, b, if_pos rfl, c, if_neg (by decide), if_neg (by decide)]
  · rw [a, b, if_pos rfl, c, if_pos rfl, if_pos rfl]
  · rw [a, b, if_neg (by decide), if_neg (by decide)]
theorem m_isS59 {σ τ : Sto} (h : TkR σ τ) (h7 : τ.1 0 7 = 0) : F_X12_isSign τ 59 = some (if σ.1 2 3 = 3 then 1 else 0) := by
  unfold F_X12_isSign
  rw [if_pos h7]
  rcases h.2 with ⟨a, b⟩ | ⟨a, b, -⟩ | ⟨a, b, -⟩ | ⟨a, b, c⟩ | ⟨a, b, c⟩ | ⟨a, b⟩
  · rw [a, b, if_neg (by decide), if_neg (by decide)]
  · rw [a, b, if_neg (by decide), if_neg (by decide)]
  · rw [a, b, if_neg (by decide), if_neg (by decide)]
  · rw [a, b, if_pos rfl, c, if_pos rfl, if_pos rfl]
  · rw [a, b, if_pos rfl, c, if_neg (by decide), if_neg (by decide)]
  · rw [a, b, if_neg (by decide), if_neg (by decide)]
def DtB (σ τ : Sto) (t n nb s : Nat) : Prop := DtN σ τ t n (nb + 1) ∧ DtV σ τ t n ∧ DtR σ τ t ∧ DtU σ τ t n nb ∧ DtM σ τ ∧ ∀ u, u < s → VE (σ.1 (t + 3) (4 * nb + u)) (τ.1 11 (4 * nb + u)) 99
theorem DtB_rd {σ τ σ' τ' : Sto} {t n nb s : Nat} (ht : t = 102 ∨ t = 110) (h : DtB σ τ t n nb s) (f : RdC σ σ') (g : RdM τ τ') : DtB σ' τ' t n nb s := by
  obtain ⟨h1, h2, h3, h4, h5, h6⟩ := h
  refine ⟨DtN_fr h1 (funext fun k => f.2.1 _ k (by omega)) (funext fun k => g.2.1 _ k (by omega)), DtV_fr h2 (funext fun k => f.1 _ k (by omega)) (funext fun k => g.1 _ k (by omega)), DtR_fr h3 (funext fun k => f.1 _ k (by omega)) (fun k _ _ => g.1 _ k (by omega)), DtU_fr h4 (funext fun k => f.1 _ k (by omega)) (funext fun k => g.1 _ k (by omega)), DtM_fr h5 (f.1 _ _ (by omega)) (g.1 _ _ (by omega)), fun u hu => ?_⟩
  rw [f.1 _ _ (by omega), g.1 _ _ (by omega)]
  exact h6 u hu
theorem m_73 {τ τ1 : Sto} {nb s : Nat} {y : Int32} {K : Sto → Int32 → Option Sto} (hb : nb < 4) (hs : s < 4) (c : τ.1 0 29 = zI nb) (h : F_X12_readWhole τ 0 99 = some (y, τ1)) : F_X12_readBuyer_73 K τ (zI s) = K (si τ1 11 (4 * nb + s) y) (zI ((s + 1 : Nat) : Int)) := by
  unfold F_X12_readBuyer_73
  rw [h, Option.bind_some, c, zl4, zI_mul, zI_add, zI_s1]
  simp (disch := omega) only [zI_ib, zI_ix]
  rw [if_pos (by omega), sw, show ((4 : Int) * nb + s).toNat = 4 * nb + s by omega]
theorem z_99 {τ : Sto} (h : Fz τ) : F_X12_readBuyer_99 τ = some τ := by unfold F_X12_readBuyer_99; rw [if_neg h.1]
theorem z_36 {τ : Sto} (h : Fz τ) (j : Nat) (i : Int32) : F_X12_readBuyer_36 (j + 1) τ i = some τ := by
  rw [F_X12_readBuyer_36, if_neg h.1, z_99 h]
  by_cases q : τ.1 0 23 ≤ i
  · rw [if_pos q]
  · rw [if_neg q]
theorem z_b20 {τ : Sto} (h : Fz τ) : F_X12_readBuyer_20 τ = some τ := by
  unfold F_X12_readBuyer_20
  rw [z_goOn h, Option.bind_some, z_name h, Option.bind_some, show FU = 5999 + 1 from rfl, z_36 h]
theorem j_b89 {T : Nat → Int} {z t L n nb s : Nat} {σ0 τ0 σ τ : Sto} (KC : Sto → Int32 → Int32 → Option (Int32 × Sto)) (KM : Sto → Int32 → Option Sto) (h : Sy T z t L σ0 τ0 σ τ n (nb + 1) n nb) (d : DtB σ τ t n nb s) (hn : n ≤ 4) (hb : nb < 4) (hs : s < n) : (∃ σ' τ', F_X6_readBuyer_89 KC σ (zI nb) (zI s) = KC σ' (zI nb) (zI ((s + 1 : Nat) : Int)) ∧ F_X12_readBuyer_73 KM τ (zI s) = KM τ' (zI ((s + 1 : Nat) : Int)) ∧ Sy T z t L σ0 τ0 σ' τ' n (nb + 1) n nb ∧ DtB σ' τ' t n nb (s + 1)) ∨ (∃ σ' τ', F_X6_readBuyer_89 KC σ (zI nb) (zI s) = some (0, σ') ∧ F_X12_readBuyer_73 KM τ (zI s) = KM τ' (zI ((s + 1 : Nat) : Int)) ∧ Bad t σ0 τ0 σ' τ') := by
  have ht := h.2.2.1.2
  have TC := tC_t ht
  obtain ⟨c1, c2, c3, c4⟩ := h.2.2.2.1
  have e99 : (99 : Int32) = zI 99 := by decide
  rcases j_whole h (m := 99) (by omega) with ⟨v, v1, v2, v3, v4, v5⟩ | ⟨f, f1, f2, y, f3⟩
  · obtain ⟨σ2, τ2, e1, e2, e3, e4, e5⟩ := j_st (c := t + 3) (k := 4 * nb + s) (r := 11) (kk := 4 * nb + s) (zI v) h (by omega) (Or.inr rfl)
    rw [e2, Option.bind_some] at v5
    refine Or.inl ⟨σ2, si τ2 11 (4 * nb + s) (zI v), ?_, m_73 hb (by omega) c4 v5, e3, DtB_rd ht ?_ e4 e5⟩
    · unfold F_X6_readBuyer_89
      rw [e99, v4, Option.bind_some, if_neg (show ¬ (1 : Int32) = 0 by decide), h.2.2.1.1, Option.bind_some, if_pos TC.1, v3, zl4, zI_mul, zI_add, zI_s1]
      simp (disch := omega) only [zI_ib, zI_ix]
      rw [if_pos (by omega), sw, show ((nb : Int) * 4 + s).toNat = 4 * nb + s by omega, e1, Option.bind_some]
    · obtain ⟨h1, h2, h3, h4, h5, h6⟩ := d
      refine ⟨h1, DtV_fr h2 (funext fun k => by rw [si_rd, if_neg (by omega)]) (funext fun k => by rw [si_rd, if_neg (by omega)]), DtR_fr h3 (funext fun k => by rw [si_rd, if_neg (by omega)]) (fun k _ _ => by rw [si_rd, if_neg (by omega)]), fun b hb' u hu => ?_, DtM_fr h5 (by rw [si_rd, if_neg (by omega)]) (by rw [si_rd, if_neg (by omega)]), fun u hu => ?_⟩
      · rw [si_rd, if_neg (by omega), si_rd, if_neg (by omega)]
        exact h4 b hb' u hu
      · by_cases e : u = s
        · rw [e, si_rd, if_pos ⟨rfl, rfl⟩, si_rd, if_pos ⟨rfl, rfl⟩]
          exact ⟨v, v1, v2, rfl, rfl⟩
        · rw [si_rd, if_neg (by omega), si_rd, if_neg (by omega)]
          exact h6 u (by omega)
  · refine Or.inr ⟨fal σ f, si (flw τ f) 11 (4 * nb + s) y, ?_, m_73 hb (by omega) c4 f3, Bad_z (j_fail h ?_) (Zk_si _ _ (by omega))⟩
    · unfold F_X6_readBuyer_89
      rw [e99, f2, Option.bind_some, if_pos (show (0 : Int32) = 0 from rfl)]
    · rcases f1 with f1 | f1
      · exact Or.inl f1
      · exact Or.inr (Or.inl f1)
theorem j_b56 {T : Nat → Int} {z t L n nb : Nat} {σ0 τ0 : Sto} (hn : n ≤ 4) (hb : nb < 4) : ∀ (e s j j' : Nat) (σ τ : Sto), s + e = n → e < j → e + 1 < j' → Sy T z t L σ0 τ0 σ τ n (nb + 1) n nb → DtB σ τ t n nb s → ∃ x σ' τ', F_X6_readBuyer_56 j σ (zI nb) (zI s) = some (x, σ') ∧ F_X12_readBuyer_36 j' τ (zI s) = some τ' ∧ ((x = 1 ∧ Sy T z t L σ0 τ0 σ' τ' n (nb + 1) n (nb + 1) ∧ Dt σ' τ' t n (nb + 1)) ∨ (x = 0 ∧ Bad t σ0 τ0 σ' τ')) := by
  intro e
  induction e with
  | zero =>
    intro s j j' σ τ k1 k2 k3 h d
    obtain ⟨j, rfl⟩ : ∃ x, j = x + 1 := ⟨j - 1, by omega⟩
    obtain ⟨j', rfl⟩ : ∃ x, j' = x + 1 := ⟨j' - 1, by omega⟩
    have TC := tC_t h.2.2.1.2
    have ht := h.2.2.1.2
    obtain ⟨c1, c2, c3, c4⟩ := h.2.2.2.1
    obtain rfl : s = n := k1
    rw [F_X6_readBuyer_56, h.2.2.1.1, Option.bind_some, if_pos TC.1, c1, if_pos (zleT (by omega)), F_X12_readBuyer_36, c3, if_pos (zleT (by omega))]
    unfold F_X12_readBuyer_99
    rw [if_pos (Sy_7 h), sw, c4, zI_s1]
    refine ⟨1, σ, _, rfl, rfl, Or.inl ⟨rfl, ?_, ?_⟩⟩
    · exact Sy_wr h (FC_rfl _ _) (FM_si τ _ (by omega)) (fun _ _ _ => rfl) rfl (fun k _ _ => by rw [si_rd, if_neg (by omega)]) rfl ⟨c1, c2, by rw [si_rd, if_neg (by omega)]; exact c3, by rw [si_rd, if_pos ⟨rfl, rfl⟩]⟩
    · obtain ⟨h1, h2, h3, h4, h5, h6⟩ := d
      refine ⟨h1, DtV_fr h2 rfl (funext fun k => by rw [si_rd, if_neg (by omega)]), DtR_fr h3 rfl (fun k _ _ => by rw [si_rd, if_neg (by omega)]), fun b hb' u hu => ?_, DtM_fr h5 rfl (by rw [si_rd, if_neg (by omega)])⟩
      rw [si_rd, if_neg (by omega)]
      by_cases eb : b = nb
      · rw [eb]; exact h6 u hu
      · exact h4 b (by omega) u hu
  | succ e ih =>
    intro s j j' σ τ k1 k2 k3 h d
    obtain ⟨j, rfl⟩ : ∃ x, j = x + 1 := ⟨j - 1, by omega⟩
    obtain ⟨j', rfl⟩ : ∃ x, j' = x + 1 := ⟨j' - 1, by omega⟩
    have ht := h.2.2.1.2
    have TC := tC_t ht
    have h7 := Sy_7 h
    obtain ⟨c1, c2, c3, c4⟩ := h.2.2.2.1
    have hs : s < n := by omega
    rw [F_X6_readBuyer_56, h.2.2.1.1, Option.bind_some, if_pos TC.1, c1, if_neg (zleF (by omega)), F_X12_readBuyer_36, c3, if_neg (zleF (by omega)), if_pos h7]
    have go : ∀ (σ τ : Sto), Sy T z t L σ0 τ0 σ τ n (nb + 1) n nb → DtB σ τ t n nb s → ∃ x σ' τ', F_X6_readBuyer_89 (F_X6_readBuyer_56 j) σ (zI nb) (zI s) = some (x, σ') ∧ F_X12_readBuyer_73 (F_X12_readBuyer_36 j') τ (zI s) = some τ' ∧ ((x = 1 ∧ Sy T z t L σ0 τ0 σ' τ' n (nb + 1) n (nb + 1) ∧ Dt σ' τ' t n (nb + 1)) ∨ (x = 0 ∧ Bad t σ0 τ0 σ' τ')) := by
      intro σ τ h d
      rcases j_b89 (F_X6_readBuyer_56 j) (F_X12_readBuyer_36 j') h d hn hb hs with ⟨σ1, τ1, a1, a2, a3, a4⟩ | ⟨σ1, τ1, a1, a2, a3⟩
      · obtain ⟨x, σ', τ', b1, b2, b3⟩ := ih (s + 1) j j' σ1 τ1 (by omega) (by omega) (by omega) a3 a4
        exact ⟨x, σ', τ', a1.trans b1, a2.trans b2, b3⟩
      · obtain ⟨j', rfl⟩ : ∃ x, j' = x + 1 := ⟨j' - 1, by omega⟩
        exact ⟨0, σ1, τ1, a1, a2.trans (z_36 (Bad_Fz a3) _ _), Or.inr ⟨rfl, a3⟩⟩
    by_cases q0 : s = 0
    · rw [if_pos (show zI s ≤ 0 from by rw [zl0]; exact zleT (by omega)), if_pos (show zI s ≤ 0 from by rw [zl0]; exact zleT (by omega))]
      exact go σ τ h d
    · rw [if_neg (show ¬ zI s ≤ 0 from by rw [zl0]; exact zleF (by omega)), if_neg (show ¬ zI s ≤ 0 from by rw [zl0]; exact zleF (by omega)), m_isS44 h.2.1 h7, Option.bind_some]
      unfold F_X12_readBuyer_69
      by_cases q4 : σ.1 2 3 = 4
      · obtain ⟨σ1, τ1, a1, a2, a3, a4, a5⟩ := Sy_adv h
        rw [if_pos q4, if_pos q4, if_neg (show ¬ (1 : Int32) = 0 by decide), a1, a2, Option.bind_some, Option.bind_some]
        exact go σ1 τ1 a3 (DtB_rd ht d a4 a5)
      · have bad := j_fail h (f := 1) (Or.inl rfl)
        have hz := flw_Fz τ (f := 1) (Or.inl rfl)
        obtain ⟨j', rfl⟩ : ∃ x, j' = x + 1 := ⟨j' - 1, by omega⟩
        have k1 : Zk (flw τ 1) (si (flw τ 1) 11 (4 * nb + s) ((flw τ 1).1 0 12)) := Zk_si _ _ (by omega)
        rw [if_neg q4, if_neg q4, if_pos (show (0 : Int32) = 0 from rfl), m_flaw h7, Option.bind_some, z_goOn hz, Option.bind_some, m_73 hb (by omega) (by rw [flw_o _ _ (by omega)]; exact c4) (z_whole hz 0 99), z_36 (Zk_Fz k1 hz), c_wrap]
        exact ⟨0, _, _, rfl, rfl, Or.inr ⟨rfl, Bad_z bad k1⟩⟩
theorem j_buyer {T : Nat → Int} {z t L n nb : Nat} {σ0 τ0 σ τ : Sto} (h : Sy T z t L σ0 τ0 σ τ n nb n nb) (d : Dt σ τ t n nb) (hn : n ≤ 4 ∧ nb ≤ 4) : ∃ x σ' τ', F_X6_readBuyer σ = some (x, σ') ∧ F_X12_readBuyer τ = some τ' ∧ ((x = 1 ∧ ∃ m mb, (m ≤ 4 ∧ mb ≤ 4) ∧ Sy T z t L σ0 τ0 σ' τ' m mb m mb ∧ Dt σ' τ' t m mb) ∨ (x = 0 ∧ Bad t σ0 τ0 σ' τ')) := by
  have ht := h.2.2.1.2
  have rf := h.2.2.1.1
  have TC := tC_t ht
  have h7 := Sy_7 h
  obtain ⟨c1, c2, c3, c4⟩ := h.2.2.2.1
  have m15 : F_X12_readBuyer_15 τ = some (flw τ 4) := by
    unfold F_X12_readBuyer_15
    rw [m_flaw h7, Option.bind_some, z_b20 (flw_Fz τ (Or.inr (Or.inr (Or.inr (Or.inl rfl)))))]
  have bad := j_fail h (f := 4) (Or.inr (Or.inr (Or.inr (Or.inl rfl))))
  by_cases q : nb = 4 ∨ n = 0
  · refine ⟨0, fal σ 4, flw τ 4, ?_, ?_, Or.inr ⟨rfl, bad⟩⟩
    · unfold F_X6_readBuyer F_X6_readBuyer_23
      rw [rf, Option.bind_some, if_pos TC.1, c2, Option.bind_some, if_pos TC.1, c1, c_wrap]
      by_cases q4 : nb = 4
      · rw [if_pos (show (4 : Int32) ≤ zI nb from by rw [zl4]; exact zleT (by omega))]
      · rw [if_neg (show ¬ (4 : Int32) ≤ zI nb from by rw [zl4]; exact zleF (by omega)), if_pos (show zI n = (0 : Int32) from by rw [show n = 0 by omega]; decide)]
    · unfold F_X12_readBuyer
      rw [c3, c4, m15]
      by_cases q4 : nb = 4
      · rw [if_pos (show zI nb = (4 : Int32) from by rw [q4]; decide)]
      · rw [if_neg (show ¬ zI nb = (4 : Int32) from by rw [zl4, zI_eq (by omega) (by omega) (by omega) (by omega)]; omega), if_pos (show zI n = (0 : Int32) from by rw [show n = 0 by omega]; decide)]
  · have hb : nb < 4 := by omega
    have n0 : ¬ zI n = (0 : Int32) := by rw [zl0, zI_eq (by omega) (by omega) (by omega) (by omega)]; omega
    have e4 : (4 : Int32) + zI nb = zI ((4 + nb : Nat) : Int) := by rw [zl4, zI_add]; rfl
    have hC : F_X6_readBuyer σ = ((F_X6_readName σ (zI ((4 + nb : Nat) : Int))).bind fun x3 => if x3.1 = 0 then (some (0, x3.2)) else (((x3.2.2.2 2 10).bind fun x4 => if (shC x4).1 = 9 then ((sw (si x3.2 x4 1 ((x3.2.1 x4 1) + 1)) fun s1 => F_X6_readBuyer_56 FU s1 (zI nb) 0)) else none))) := by
      unfold F_X6_readBuyer
      rw [rf, Option.bind_some, if_pos TC.1, c2, if_neg (show ¬ (4 : Int32) ≤ zI nb from by rw [zl4]; exact zleF (by omega)), Option.bind_some, if_pos TC.1, c1, if_neg n0, e4]
    have hM : F_X12_readBuyer τ = F_X12_readBuyer_20 τ := by
      unfold F_X12_readBuyer
      rw [c3, c4, if_neg (show ¬ zI nb = (4 : Int32) from by rw [zl4, zI_eq (by omega) (by omega) (by omega) (by omega)]; omega), if_neg n0]
    obtain ⟨τ1, n1, n2, n3, σ2, τ2, n4, nn⟩ := j_name h d hn (i := 4 + nb) (Or.inr ⟨rfl, hb⟩)
    rw [hC, hM]
    unfold F_X12_readBuyer_20
    rw [n1, Option.bind_some, n3, e4, n4, Option.bind_some]
    rcases nn with ⟨k1, k2, k3, l, l1, l2, l3⟩ | ⟨k1, k2, k3, k4⟩
    · obtain ⟨g1, g2, g3, g4⟩ := k2.2.2.2.1
      have s3 : Sy T z t L σ0 τ0 (si σ2 t 1 (zI ((nb + 1 : Nat) : Int))) τ2 n (nb + 1) n nb := Sy_wr k2 (FC_si σ2 _ (by omega)) (FM_rfl _) (fun k _ _ => by rw [si_rd, if_neg (by omega)]) rfl (fun _ _ _ => rfl) rfl ⟨by rw [si_rd, if_neg (by omega)]; exact g1, by rw [si_rd, if_pos ⟨rfl, rfl⟩], g3, g4⟩
      have d3 : DtB (si σ2 t 1 (zI ((nb + 1 : Nat) : Int))) τ2 t n nb 0 := by
        obtain ⟨p1, p2, p3, p4, p5⟩ := k3
        refine ⟨⟨p1.1, fun i hi => ?_⟩, DtV_fr p2 (funext fun k => by rw [si_rd, if_neg (by omega)]) rfl, DtR_fr p3 (funext fun k => by rw [si_rd, if_neg (by omega)]) (fun _ _ _ => rfl), DtU_fr p4 (funext fun k => by rw [si_rd, if_neg (by omega)]) rfl, DtM_fr p5 (by rw [si_rd, if_neg (by omega)]) rfl, fun u hu => by omega⟩
        by_cases e : i = nb
        · rw [e]; exact l2.trans l3.symm
        · exact p1.2 i (by omega)
      rw [k1, Option.bind_some, if_neg (show ¬ (1 : Int32) = 0 by decide), k2.2.2.1.1, Option.bind_some, if_pos TC.1, g2, zI_s1, sw]
      obtain ⟨x, σ', τ', e1, e2, e3⟩ := j_b56 hn.1 hb n 0 FU FU _ _ (by omega) (FU_lt (by omega)) (FU_lt (by omega)) s3 d3
      refine ⟨x, σ', τ', e1, e2, ?_⟩
      rcases e3 with ⟨e3, e4, e5⟩ | e3
      · exact Or.inl ⟨e3, n, nb + 1, by omega, e4, e5⟩
      · exact Or.inr e3
    · rw [k1, Option.bind_some, if_pos (show (0 : Int32) = 0 from rfl), show FU = 5999 + 1 from rfl, z_36 (Bad_Fz k2)]
      exact ⟨0, σ2, τ2, rfl, rfl, Or.inr ⟨rfl, k2⟩⟩
