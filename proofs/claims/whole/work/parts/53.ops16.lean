/-! COPYING -/
theorem ifB {α : Type} {P1 P2 P3 P4 P5 : Prop} [Decidable P1] [Decidable P2] [Decidable P3] [Decidable P4] [Decidable P5] (B G : α) (h : ¬ (¬ P1 ∧ ¬ P2 ∧ ¬ P3 ∧ ¬ P4 ∧ P5)) : (if P1 then B else if P2 then B else if P3 then B else if P4 then B else if P5 then G else B) = B := by
  by_cases h1 : P1
  · rw [if_pos h1]
  · rw [if_neg h1]
    by_cases h2 : P2
    · rw [if_pos h2]
    · rw [if_neg h2]
      by_cases h3 : P3
      · rw [if_pos h3]
      · rw [if_neg h3]
        by_cases h4 : P4
        · rw [if_pos h4]
        · rw [if_neg h4, if_neg (fun h5 => h ⟨h1, h2, h3, h4, h5⟩)]
theorem sub_neg {n : Nat} {x : Int32} (hn : n ≤ 40) (h : nI n < x) : nI n - x < 0 := by
  apply Int32.lt_iff_toInt_lt.mpr
  have h1 := Int32.lt_iff_toInt_lt.mp h
  have h2 := x.toInt_lt
  rw [nI_toInt (by omega)] at h1
  rw [Int32.toInt_sub, nI_toInt (by omega), Int.bmod_eq_of_le (by omega) (by omega)]
  show _ < (0 : Int)
  omega
def hOk (fr n sz : Int32) : Prop := ¬ fr < 0 ∧ ¬ n < 0 ∧ ¬ sz < n ∧ ¬ sz - n < fr
theorem ex_holdsT {σ : fm_M} {a : Nat} {fr n sz : Int32} (h : σ.1 a 2 = sz) (ho : hOk fr n sz) : m_X8_holds a fr n σ = some (nI 1, σ) := by
  unfold m_X8_holds
  rw [if_neg ho.1, if_neg ho.2.1, h, if_neg ho.2.2.1, if_neg ho.2.2.2]
  rfl
theorem ex_holdsF {σ : fm_M} {a : Nat} {fr n sz : Int32} (h : σ.1 a 2 = sz) (ho : ¬ hOk fr n sz) : m_X8_holds a fr n σ = some (nI 0, σ) := by
  unfold m_X8_holds
  rw [h]
  by_cases h1 : fr < 0
  · rw [if_pos h1]; rfl
  · rw [if_neg h1]
    by_cases h2 : n < 0
    · rw [if_pos h2]; rfl
    · rw [if_neg h2]
      by_cases h3 : sz < n
      · rw [if_pos h3]; rfl
      · rw [if_neg h3]
        by_cases h4 : sz - n < fr
        · rw [if_pos h4]; rfl
        · exact absurd ⟨h1, h2, h3, h4⟩ ho
theorem hOk_nat {fr n : Int32} {sz : Nat} (hs : sz ≤ 40) (h : hOk fr n (nI sz)) : ∃ f m, fr = nI f ∧ n = nI m ∧ f + m ≤ sz := by
  obtain ⟨h1, h2, h3, h4⟩ := h
  rcases nu_ix n (n := sz + 1) (by omega) with ⟨m, hm, rfl⟩ | z | z
  · rw [nu_sub (by omega)] at h4
    rcases nu_ix fr (n := sz - m + 1) (by omega) with ⟨f, hf, rfl⟩ | y | y
    · exact ⟨f, m, rfl, rfl, by omega⟩
    · exact absurd y h1
    · refine absurd (Int32.lt_of_lt_of_le ?_ y) h4
      rw [nu_lt (by omega) (by omega)]; omega
  · exact absurd z h2
  · refine absurd (Int32.lt_of_lt_of_le ?_ z) h3
    rw [nu_lt (by omega) (by omega)]; omega
theorem em_cp1 (kc : Int32 → Int32 → Int32 → Int32 → Int32 → Int32 → fm_M → Option (Int32 × fm_M)) {s f M : Nat} {z3 z4 : Int32} (hs : s < 4) (hf : f + M ≤ 40) : ∀ (m fuel i : Nat) (σ : fm_M), m < fuel → i + m = M → ∃ σ', m_X12_copy_115 kc fuel (nI s) (nI f) z3 z4 (nI M) (nI i) σ = kc (nI s) (nI f) z3 z4 (nI M) (nI M) σ' ∧ σ'.1 = σ.1 ∧ (∀ k, i ≤ k → k < M → σ'.2 109 k = σ.2 108 (40 * s + (f + k))) ∧ ∀ a k, ¬ (a = 109 ∧ i ≤ k) → σ'.2 a k = σ.2 a k := by
  intro m
  induction m with
  | zero =>
    intro fuel i σ hu hi
    obtain ⟨n, rfl⟩ : ∃ n, fuel = n + 1 := ⟨fuel - 1, by omega⟩
    refine ⟨σ, ?_, rfl, fun k i1 i2 => by omega, fun _ _ _ => rfl⟩
    rw [m_X12_copy_115, if_pos (by rw [nu_le (by omega) (by omega)]; omega), show i = M by omega]
  | succ m ih =>
    intro fuel i σ hu hi
    obtain ⟨n, rfl⟩ : ∃ n, fuel = n + 1 := ⟨fuel - 1, by omega⟩
    obtain ⟨σ', v1, v2, v3, v4⟩ := ih n (i + 1) (fm_sL σ 109 i (σ.2 108 (40 * s + (f + i)))) (by omega) (by omega)
    refine ⟨σ', ?_, v2, fun k i1 i2 => ?_, fun a k z => ?_⟩
    · rw [m_X12_copy_115, if_neg (by rw [nu_le (by omega) (by omega)]; omega), nI_add, em_told hs (by omega), nu_b, nu_in (by omega) (by decide), nu_g, nu_let, nu_cl (by omega)]
      simp only [nu_lit, nI_add]
      exact v1
    · by_cases z : k = i
      · subst z; rw [v4 _ _ (by omega), nu_sL, if_pos ⟨rfl, rfl⟩]
      · rw [v3 k (by omega) i2, nu_sL, if_neg (by omega)]
    · rw [v4 _ _ (by omega), nu_sL, if_neg (by omega)]
theorem em_cp2 (kc : Int32 → Int32 → Int32 → Int32 → fm_M → Option (Int32 × fm_M)) {t d M : Nat} (ht : t < 4) (hd : d + M ≤ 40) : ∀ (m fuel i : Nat) (σ : fm_M), m < fuel → i + m = M → ∃ σ', m_X12_copy_147 kc fuel (nI t) (nI d) (nI M) (nI i) σ = kc (nI t) (nI d) (nI M) (nI M) σ' ∧ σ'.1 = σ.1 ∧ (∀ k, i ≤ k → k < M → σ'.2 108 (40 * t + (d + k)) = σ.2 109 k) ∧ ∀ a k, ¬ (a = 108 ∧ 40 * t + d + i ≤ k ∧ k < 40 * t + d + M) → σ'.2 a k = σ.2 a k := by
  intro m
  induction m with
  | zero =>
    intro fuel i σ hu hi
    obtain ⟨n, rfl⟩ : ∃ n, fuel = n + 1 := ⟨fuel - 1, by omega⟩
    refine ⟨σ, ?_, rfl, fun k i1 i2 => by omega, fun _ _ _ => rfl⟩
    rw [m_X12_copy_147, if_pos (by rw [nu_le (by omega) (by omega)]; omega), show i = M by omega]
  | succ m ih =>
    intro fuel i σ hu hi
    obtain ⟨n, rfl⟩ : ∃ n, fuel = n + 1 := ⟨fuel - 1, by omega⟩
    obtain ⟨σ', v1, v2, v3, v4⟩ := ih n (i + 1) (fm_sL σ 108 (40 * t + d + i) (σ.2 109 i)) (by omega) (by omega)
    refine ⟨σ', ?_, v2, fun k i1 i2 => ?_, fun a k z => ?_⟩
    · rw [m_X12_copy_147]
      simp only [nu_lit, nI_add, pk_mul]
      rw [if_neg (by rw [nu_le (by omega) (by omega)]; omega), nu_in (by omega) (by decide), nu_g, nu_in (by omega) (by decide), nu_g, nu_let, nu_cl (n := i) (by omega), nu_cl (by omega)]
      exact v1
    · by_cases z : k = i
      · subst z
        rw [v4 _ _ (by omega), nu_sL, if_pos ⟨rfl, by omega⟩]
      · rw [v3 k (by omega) i2, nu_sL, if_neg (by omega)]
    · rw [v4 _ _ (by omega), nu_sL, if_neg (by omega)]
theorem op_copy (x a y b c : Int32) {σ : fm_M} (h : Inv σ) : opS (m_X11_copy x a y b c) (m_X12_copy x a y b c) σ := by
  obtain ⟨hR, dy, np, ng, kd, jy, pr, k1, k2, k3, k4⟩ := id h
  rcases nu_ix x (n := 4) (by omega) with ⟨s, hx, rfl⟩ | hx
  · obtain ⟨g1, g2, n, g3, g4, g5, g6, g7⟩ := hR.2.2.1 s hx
    rcases nu_ix y (n := 4) (by omega) with ⟨t, hy, rfl⟩ | hy
    · obtain ⟨l1, l2, m, l3, l4, l5, l6, l7⟩ := hR.2.2.1 t hy
      by_cases z : σ.1 (84 + 2 * s) 1 = nI 0
      · refine stp_find 5 (by decide) h ?_ (fun σ1 hs => ?_)
        · unfold m_X11_copy
          simp only [nu_lit, fnd5]
          rw [ex_isSheetT hx, nu_b, if_neg nI10, ex_isSheetT hy, nu_b, if_neg nI10, nu_in hx (by decide), nu_g, nu_cl (n := s) (by omega), ex_missing, nu_b, if_pos z, if_neg nI10]
        · unfold m_X12_copy
          simp only [nu_lit]
          rw [em_isSheetT hx, nu_b, if_neg nI10, em_isSheetT hy, nu_b, if_neg nI10, nu_in hx (by decide), nu_g, nu_cl (n := s) (by omega), hs _ _ (by omega), g1, if_pos z]
      · by_cases z2 : σ.1 (84 + 2 * t) 1 = nI 0
        · refine stp_find 5 (by decide) h ?_ (fun σ1 hs => ?_)
          · unfold m_X11_copy
            simp only [nu_lit, fnd5]
            rw [ex_isSheetT hx, nu_b, if_neg nI10, ex_isSheetT hy, nu_b, if_neg nI10, nu_in hx (by decide), nu_g, nu_cl (n := s) (by omega), ex_missing, nu_b, if_neg z, if_pos rfl, nu_in hy (by decide), nu_g, nu_cl (n := t) (by omega), ex_missing, nu_b, if_pos z2, if_neg nI10]
          · unfold m_X12_copy
            simp only [nu_lit]
            rw [em_isSheetT hx, nu_b, if_neg nI10, em_isSheetT hy, nu_b, if_neg nI10, nu_in hx (by decide), nu_g, nu_cl (n := s) (by omega), hs _ _ (by omega), g1, if_neg z, nu_in hy (by decide), nu_g, nu_cl (n := t) (by omega), hs _ _ (by omega), l1, if_pos z2]
        · by_cases z3 : σ.1 (84 + 2 * s) 1 = σ.1 (84 + 2 * t) 1
          · by_cases ok : hOk a c (nI n) ∧ hOk b c (nI m)
            · obtain ⟨f, M, rfl, rfl, hf⟩ := hOk_nat g3 ok.1
              obtain ⟨d, M', rfl, eM, hd⟩ := hOk_nat l3 ok.2
              have eM2 : M = M' := by
                rw [nu_eq (by omega) (by omega)] at eM; exact eM
              subst eM2
              have hk : fm_cpk (nI f) (nI d) (nI M) 40 40 = true := by
                simp only [fm_cpk, Bool.and_eq_true, decide_eq_true_eq]
                rw [nu_cl (n := f) (by omega), nu_cl (n := d) (by omega), nu_cl (n := M) (by omega)]
                exact ⟨ok.1.1, ok.2.1, ok.1.2.1, by omega, by omega⟩
              have c2 : ∀ q k, q ≠ 84 + 2 * t + 1 → (fm_cpL σ (84 + 2 * s + 1) (84 + 2 * t + 1) f d M).2 q k = σ.2 q k := fun q k i => by
                unfold fm_cpL
                dsimp only
                rw [if_neg i]
              have c3 : ∀ k, (fm_cpL σ (84 + 2 * s + 1) (84 + 2 * t + 1) f d M).2 (84 + 2 * t + 1) k = va_cpy (σ.2 (84 + 2 * s + 1)) (σ.2 (84 + 2 * t + 1)) f d M k := fun k => by
                unfold fm_cpL
                dsimp only
                rw [if_pos rfl]
              have c1 : (fm_cpL σ (84 + 2 * s + 1) (84 + 2 * t + 1) f d M).1 = σ.1 := rfl
              generalize eτ : fm_cpL σ (84 + 2 * s + 1) (84 + 2 * t + 1) f d M = τ at c1 c2 c3
              obtain ⟨τ1, p1, p2, p3, p4⟩ := em_cp1 (fun (x1_y37) (x2_y37) (x3_y37) (x4_y37) (x5_y37) (x6_y37) (σ_y37) => m_X12_copy_147 (fun (x3_y42) (x4_y42) (x5_y42) (x6_y42) (σ_y42) => some (x5_y42, σ_y42)) fm_fu x3_y37 x4_y37 x5_y37 (nI 0) σ_y37) (z3 := nI t) (z4 := nI d) (f := f) (M := M) hx (by omega) M fm_fu 0 τ (by have := nu_fu; omega) (by omega)
              obtain ⟨τ2, q1, q2, q3, q4⟩ := em_cp2 (fun (x3_y42) (x4_y42) (x5_y42) (x6_y42) (σ_y42) => some (x5_y42, σ_y42)) (d := d) (M := M) hy (by omega) M fm_fu 0 τ1 (by have := nu_fu; omega) (by omega)
              have e1 : τ2.1 = σ.1 := by rw [q2, p2, c1]
              refine ⟨nI M, τ, τ2, ?_, ?_, ?_⟩
              · unfold m_X11_copy
                simp only [nu_lit]
                rw [ex_isSheetT hx, nu_b, if_neg nI10, ex_isSheetT hy, nu_b, if_neg nI10, nu_in hx (by decide), nu_g, nu_cl (n := s) (by omega), ex_missing, nu_b, if_neg z, if_pos rfl, nu_in hy (by decide), nu_g, nu_cl (n := t) (by omega), ex_missing, nu_b, if_neg z2, if_pos rfl, nu_g, nu_g, if_pos z3, nu_g, ex_holdsT g4 ok.1, nu_b, if_neg nI10, nu_g, ex_holdsT l4 ok.2, nu_b, if_neg nI10, nu_g, nu_g, hk, nu_g, nu_let, nu_cl (n := f) (by omega), nu_cl (n := d) (by omega), nu_cl (n := M) (by omega), eτ]
              · unfold m_X12_copy
                simp only [nu_lit]
                rw [em_isSheetT hx, nu_b, if_neg nI10, em_isSheetT hy, nu_b, if_neg nI10, nu_in hx (by decide), nu_g, nu_cl (n := s) (by omega), c1, g1, if_neg z, nu_in hy (by decide), nu_g, nu_cl (n := t) (by omega), l1, if_neg z2, nu_g, nu_g, if_pos z3, if_neg (by exact ok.1.2.1), if_neg (by exact ok.1.1), if_neg (by exact ok.2.1), nu_g, g5, if_neg ok.1.2.2.2, nu_g, l5, if_pos (Int32.not_lt.mp ok.2.2.2.2), p1]
                exact q1
              · refine inv_S h hy (w := σ.1 (84 + 2 * t) 1) (n := m) (fun q k _ _ _ _ _ => by rw [e1]) (fun q k i1 i2 i3 => ?_) (by rw [e1]; exact l1) (by rw [e1]) l2 l3 (by rw [e1]; exact l4) (by rw [e1]; exact l5) l6 (fun i hi => ?_)
                · rw [q4 _ _ (by omega), p4 _ _ (by omega), c2 _ _ (by omega)]
                · have r1 : τ2.2 (85 + 2 * t) i = va_cpy (σ.2 (84 + 2 * s + 1)) (σ.2 (84 + 2 * t + 1)) f d M i := by rw [q4 _ _ (by omega), p4 _ _ (by omega), show 85 + 2 * t = 84 + 2 * t + 1 by omega, c3]
                  rw [r1]
                  by_cases u : d ≤ i ∧ i < d + M
                  · have := q3 (i - d) (by omega) (by omega)
                    rw [show d + (i - d) = i by omega] at this
                    rw [this, p3 _ (by omega) (by omega), c2 _ _ (by omega), g7 _ (by omega), show 85 + 2 * s = 84 + 2 * s + 1 by omega]
                    unfold va_cpy
                    rw [if_pos u]
                  · rw [q4 _ _ (by omega), p4 _ _ (by omega), c2 _ _ (by omega), l7 i hi, show 85 + 2 * t = 84 + 2 * t + 1 by omega]
                    unfold va_cpy
                    rw [if_neg u]
            · refine stp_find 0 (by decide) h ?_ (fun σ1 hs => ?_)
              · unfold m_X11_copy
                simp only [nu_lit, fnd0]
                rw [ex_isSheetT hx, nu_b, if_neg nI10, ex_isSheetT hy, nu_b, if_neg nI10, nu_in hx (by decide), nu_g, nu_cl (n := s) (by omega), ex_missing, nu_b, if_neg z, if_pos rfl, nu_in hy (by decide), nu_g, nu_cl (n := t) (by omega), ex_missing, nu_b, if_neg z2, if_pos rfl, nu_g, nu_g, if_pos z3, nu_g]
                by_cases o1 : hOk a c (nI n)
                · rw [ex_holdsT g4 o1, nu_b, if_neg nI10, nu_g, ex_holdsF l4 (fun o2 => ok ⟨o1, o2⟩), nu_b, if_pos rfl]
                · rw [ex_holdsF g4 o1, nu_b, if_pos rfl]
              · unfold m_X12_copy
                simp only [nu_lit]
                rw [em_isSheetT hx, nu_b, if_neg nI10, em_isSheetT hy, nu_b, if_neg nI10, nu_in hx (by decide), nu_g, nu_cl (n := s) (by omega), hs _ _ (by omega), g1, if_neg z, nu_in hy (by decide), nu_g, nu_cl (n := t) (by omega), hs _ _ (by omega), l1, if_neg z2, nu_g, nu_g, if_pos z3, nu_g, nu_g, hs _ _ (by omega), g5, hs _ _ (by omega), l5]
                refine ifB _ _ (fun q => ok ?_)
                obtain ⟨u1, u2, u3, u4, u5⟩ := q
                refine ⟨⟨u2, u1, fun v => u4 ?_, u4⟩, ⟨u3, u1, fun v => ?_, Int32.not_lt.mpr u5⟩⟩
                · exact Int32.lt_of_lt_of_le (sub_neg g3 v) (Int32.not_lt.mp u2)
                · exact absurd (Int32.lt_of_le_of_lt u5 (sub_neg l3 v)) u3
          · refine stp_find 2 (by decide) h ?_ (fun σ1 hs => ?_)
            · unfold m_X11_copy
              simp only [nu_lit, fnd2]
              rw [ex_isSheetT hx, nu_b, if_neg nI10, ex_isSheetT hy, nu_b, if_neg nI10, nu_in hx (by decide), nu_g, nu_cl (n := s) (by omega), ex_missing, nu_b, if_neg z, if_pos rfl, nu_in hy (by decide), nu_g, nu_cl (n := t) (by omega), ex_missing, nu_b, if_neg z2, if_pos rfl, nu_g, nu_g, if_neg z3]
            · unfold m_X12_copy
              simp only [nu_lit]
              rw [em_isSheetT hx, nu_b, if_neg nI10, em_isSheetT hy, nu_b, if_neg nI10, nu_in hx (by decide), nu_g, nu_cl (n := s) (by omega), hs _ _ (by omega), g1, if_neg z, nu_in hy (by decide), nu_g, nu_cl (n := t) (by omega), hs _ _ (by omega), l1, if_neg z2, nu_g, nu_g, if_neg z3]
    · refine stp_find 0 (by decide) h ?_ (fun σ1 hs => ?_)
      · unfold m_X11_copy
        simp only [nu_lit, fnd0]
        rw [ex_isSheetT hx, nu_b, if_neg nI10, ex_isSheetF hy, nu_b, if_pos rfl]
      · unfold m_X12_copy
        simp only [nu_lit]
        rw [em_isSheetT hx, nu_b, if_neg nI10, em_isSheetF hy, nu_b, if_pos rfl]
  · refine stp_find 0 (by decide) h ?_ (fun σ1 hs => ?_)
    · unfold m_X11_copy
      simp only [nu_lit, fnd0]
      rw [ex_isSheetF hx, nu_b, if_pos rfl]
    · unfold m_X12_copy
      simp only [nu_lit]
      rw [em_isSheetF hx, nu_b, if_pos rfl]
