/-! SHEETS -/
theorem ex_isSheetT {σ : fm_M} {j : Nat} (h : j < 4) : m_X11_isSheet (nI j) σ = some (nI 1, σ) := by
  unfold m_X11_isSheet
  simp only [nu_lit]
  rw [ex_wT (by omega) (by omega) (by decide), nu_b, nu_bz1, nu_g]
theorem ex_isSheetF {σ : fm_M} {x : Int32} (h : x < 0 ∨ nI 4 ≤ x) : m_X11_isSheet x σ = some (nI 0, σ) := by
  unfold m_X11_isSheet
  simp only [nu_lit]
  rw [ex_wF h (by decide), nu_b, nu_bz0, nu_g]
theorem em_isSheetT {σ : fm_M} {j : Nat} (h : j < 4) : m_X12_isSheet (nI j) σ = some (nI 1, σ) := by
  unfold m_X12_isSheet
  simp only [nu_lit]
  rw [em_in1T _ (by omega) (by omega) (by decide), nu_b, nu_bz1, nu_g]
theorem em_isSheetF {σ : fm_M} {x : Int32} (h : x < 0 ∨ nI 4 ≤ x) : m_X12_isSheet x σ = some (nI 0, σ) := by
  unfold m_X12_isSheet
  simp only [nu_lit]
  rw [em_wF h (by decide), nu_b, nu_bz0, nu_g]
theorem em_wrongT {σ : fm_M} {j : Nat} (h : j < 4) : m_X12_wrongSheet (nI j) σ = some (if σ.1 106 j = nI 0 then nI 5 else -nI 1, σ) := by
  unfold m_X12_wrongSheet
  simp only [nu_lit]
  rw [em_isSheetT h, nu_b, if_neg nI10, nu_in h (by decide), nu_g, nu_cl (by omega)]
  by_cases z : σ.1 106 j = nI 0
  · rw [if_pos z, if_pos z]
  · rw [if_neg z, if_neg z]
theorem em_wrongF {σ : fm_M} {x : Int32} (h : x < 0 ∨ nI 4 ≤ x) : m_X12_wrongSheet x σ = some (nI 0, σ) := by
  unfold m_X12_wrongSheet
  simp only [nu_lit]
  rw [em_isSheetF h, nu_b, if_pos rfl]
theorem ex_missing {σ : fm_M} {a : Nat} : m_X8_isMissing a σ = some (if σ.1 a 1 = nI 0 then nI 1 else nI 0, σ) := by
  unfold m_X8_isMissing
  simp only [nu_lit]
  by_cases z : σ.1 a 1 = nI 0
  · rw [if_pos z, if_pos z]
  · rw [if_neg z, if_neg z]
def opL (fX fM : fm_M → Option (Int64 × fm_M)) (σ : fm_M) : Prop := ∃ (r : Int64) (σ1 σ2 : fm_M), fX σ = some (r, σ1) ∧ fM σ1 = some (r, σ2) ∧ Inv σ2
theorem stp_findL {fX fM : fm_M → Option (Int64 × fm_M)} {σ : fm_M} (F : Nat) (hF : F < 7) (h : Inv σ) (hX : fX σ = fm_b (m_X11_tell (fnd F) σ) fun r s => some (r.toInt64, s)) (hM : ∀ σ1, eM σ σ1 → fM σ1 = fm_b (m_X12_no (nI F) σ1) fun r s => some (r.toInt64, s)) : opL fX fM σ := by
  have hs : eM σ (fm_sI σ 94 F (σ.1 94 F + nI 1)) := fun a k ha => by rw [nu_sI, if_neg (by omega)]
  obtain ⟨r, σ1, σ2, q1, q2, q3⟩ := stp_find (fX := fun τ => fm_b (m_X11_tell (fnd F) τ) fun r s => some (r, s)) (fM := fun τ => fm_b (m_X12_no (nI F) τ) fun r s => some (r, s)) F hF h rfl (fun _ _ => rfl)
  dsimp only at q1 q2
  rw [ex_tell σ hF, nu_b] at q1
  simp only [Option.some.injEq, Prod.mk.injEq] at q1
  obtain ⟨rfl, rfl⟩ := q1
  rw [em_no _ hF, nu_b] at q2
  simp only [Option.some.injEq, Prod.mk.injEq] at q2
  obtain ⟨-, rfl⟩ := q2
  exact ⟨_, _, _, by rw [hX, ex_tell σ hF, nu_b], by rw [hM _ hs, em_no _ hF, nu_b], q3⟩
/-- the end of a call that changes one sheet -/
theorem inv_S {σ σ2 : fm_M} {s n : Nat} {w : Int32} (h : Inv σ) (hs : s < 4) (e : ∀ a k, ¬ sX a k → ¬ sM a k → ¬ (a = 84 + 2 * s ∧ (k = 1 ∨ k = 2)) → ¬ (a = 106 ∧ k = s) → ¬ (a = 107 ∧ k = s) → σ2.1 a k = σ.1 a k) (l : ∀ a k, a ≠ 85 + 2 * s → ¬ (a = 108 ∧ 40 * s ≤ k ∧ k < 40 * s + 40) → a ≠ 109 → σ2.2 a k = σ.2 a k) (w1 : σ2.1 106 s = w) (w2 : σ2.1 (84 + 2 * s) 1 = w) (hw : w = nI 0 ∨ w = nI 8 ∨ w = nI 16 ∨ w = nI 64) (hn : n ≤ 40) (n1 : σ2.1 (84 + 2 * s) 2 = nI n) (n2 : σ2.1 107 s = nI n) (h0 : w = nI 0 → n = 0) (hc : ∀ i, i < 40 → σ2.2 108 (40 * s + i) = σ2.2 (85 + 2 * s) i) : Inv σ2 := by
  obtain ⟨⟨h1, h2, h3, h4, h5⟩, dy, np, ng, kd, jy, pr, k1, k2, k3, k4⟩ := h
  have q : ∀ a k, a < 58 ∨ a = 83 ∨ (a = 92 ∧ k = 1) ∨ a = 93 ∨ a = 94 ∨ (a = 96 ∧ (k = 3 ∨ k = 8)) ∨ (a = 97 ∧ k < 96) ∨ a = 98 ∨ a = 100 ∨ (102 ≤ a ∧ a ≤ 105) → σ2.1 a k = σ.1 a k := fun a k z => e a k (by unfold sX; omega) (by unfold sM; omega) (by omega) (by omega) (by omega)
  refine ⟨⟨h1.keep (fun k => q _ _ (by omega)) (fun a k i1 i2 => q _ _ (by omega)) (q _ _ (by omega)) (fun k => q _ _ (by omega)), h2.keep (q _ _ (by omega)) (fun k => q _ _ (by omega)) (q _ _ (by omega)) (fun k => q _ _ (by omega)), fun t ht => ?_, fun k hk => by rw [q _ _ (by omega), q _ _ (by omega)]; exact h4 k hk, fun k hk => by rw [q _ _ (by omega)]; exact h5.1 k hk, fun k hk => by rw [q _ _ (by omega)]; exact h5.2.1 k hk, fun k hk => by rw [q _ _ (by omega)]; exact h5.2.2 k hk⟩, dy, np, ng, kd, jy, pr, k1, k2, k3.keep k1 (fun a k i1 i2 => q _ _ (by omega)), k4.k96 k1 (fun k hk => q _ _ (by omega))⟩
  by_cases z : t = s
  · subst z
    exact ⟨by rw [w1, w2], by rw [w2]; exact hw, n, hn, n1, n2, fun y => h0 (by rw [← w2]; exact y), hc⟩
  · obtain ⟨g1, g2, m, g3, g4, g5, g6, g7⟩ := h3 t ht
    have r1 : ∀ k, σ2.1 (84 + 2 * t) k = σ.1 (84 + 2 * t) k := fun k => e _ _ (by unfold sX; omega) (by unfold sM; omega) (by omega) (by omega) (by omega)
    have r2 : σ2.1 106 t = σ.1 106 t := e _ _ (by unfold sX; omega) (by unfold sM; omega) (by omega) (by omega) (by omega)
    have r3 : σ2.1 107 t = σ.1 107 t := e _ _ (by unfold sX; omega) (by unfold sM; omega) (by omega) (by omega) (by omega)
    refine ⟨by rw [r1, r2]; exact g1, by rw [r1]; exact g2, m, g3, by rw [r1]; exact g4, by rw [r3]; exact g5, by rw [r1]; exact g6, fun i hi => ?_⟩
    rw [l _ _ (by omega) (by omega) (by omega), l _ _ (by omega) (by omega) (by omega)]
    exact g7 i hi
theorem ex_beginLoop (kc : Nat → Int32 → fm_M → Option (Unit × fm_M)) {a0 : Nat} : ∀ (m fuel i : Nat) (σ : fm_M), m < fuel → i + m = 40 → ∃ σ', m_X8_begin_12 kc fuel a0 (nI i) σ = kc a0 (nI 40) σ' ∧ σ'.1 = σ.1 ∧ (∀ k, i ≤ k → k < 40 → σ'.2 (a0 + 1) k = 0) ∧ ∀ a k, ¬ (a = a0 + 1 ∧ i ≤ k ∧ k < 40) → σ'.2 a k = σ.2 a k := by
  intro m
  induction m with
  | zero =>
    intro fuel i σ hf hi
    obtain ⟨n, rfl⟩ : ∃ n, fuel = n + 1 := ⟨fuel - 1, by omega⟩
    refine ⟨σ, ?_, rfl, fun k i1 i2 => by omega, fun _ _ _ => rfl⟩
    rw [m_X8_begin_12]
    simp only [nu_lit]
    rw [if_pos (by rw [nu_le (by omega) (by omega)]; omega), show i = 40 by omega]
  | succ m ih =>
    intro fuel i σ hf hi
    obtain ⟨n, rfl⟩ : ∃ n, fuel = n + 1 := ⟨fuel - 1, by omega⟩
    obtain ⟨σ', v1, v2, v3, v4⟩ := ih n (i + 1) (fm_sL σ (a0 + 1) i 0) (by omega) (by omega)
    refine ⟨σ', ?_, v2, fun k i1 i2 => ?_, fun a k z => ?_⟩
    · rw [m_X8_begin_12]
      simp only [nu_lit, nI_add]
      rw [if_neg (by rw [nu_le (by omega) (by omega)]; omega), nu_in (by omega) (by decide), nu_g, nu_let, nu_cl (by omega)]
      exact v1
    · by_cases z : k = i
      · subst z; rw [v4 _ _ (by omega), nu_sL, if_pos ⟨rfl, rfl⟩]
      · exact v3 k (by omega) i2
    · rw [v4 _ _ (by omega), nu_sL, if_neg (by omega)]
theorem em_sheetLoop (kc : Int32 → Int32 → fm_M → Option (Int32 × fm_M)) {s : Nat} (hs : s < 4) : ∀ (m fuel i : Nat) (σ : fm_M), m < fuel → i + m = 40 → ∃ σ', m_X12_sheet_83 kc fuel (nI s) (nI i) σ = kc (nI s) (nI 40) σ' ∧ σ'.1 = σ.1 ∧ (∀ k, i ≤ k → k < 40 → σ'.2 108 (40 * s + k) = 0) ∧ ∀ a k, ¬ (a = 108 ∧ 40 * s + i ≤ k ∧ k < 40 * s + 40) → σ'.2 a k = σ.2 a k := by
  intro m
  induction m with
  | zero =>
    intro fuel i σ hf hi
    obtain ⟨n, rfl⟩ : ∃ n, fuel = n + 1 := ⟨fuel - 1, by omega⟩
    refine ⟨σ, ?_, rfl, fun k i1 i2 => by omega, fun _ _ _ => rfl⟩
    rw [m_X12_sheet_83]
    simp only [nu_lit]
    rw [if_pos (by rw [nu_le (by omega) (by omega)]; omega), show i = 40 by omega]
  | succ m ih =>
    intro fuel i σ hf hi
    obtain ⟨n, rfl⟩ : ∃ n, fuel = n + 1 := ⟨fuel - 1, by omega⟩
    obtain ⟨σ', v1, v2, v3, v4⟩ := ih n (i + 1) (fm_sL σ 108 (40 * s + i) 0) (by omega) (by omega)
    refine ⟨σ', ?_, v2, fun k i1 i2 => ?_, fun a k z => ?_⟩
    · rw [m_X12_sheet_83]
      simp only [nu_lit, nI_add, pk_mul]
      rw [if_neg (by rw [nu_le (by omega) (by omega)]; omega), nu_in (by omega) (by decide), nu_g, nu_let, nu_cl (by omega)]
      exact v1
    · by_cases z : k = i
      · subst z; rw [v4 _ _ (by omega), nu_sL, if_pos ⟨rfl, rfl⟩]
      · exact v3 k (by omega) i2
    · rw [v4 _ _ (by omega), nu_sL, if_neg (by omega)]
theorem ex_begin {σ : fm_M} {a0 : Nat} {w v : Int32} : ∃ σ', m_X8_begin a0 w v σ = some ((), σ') ∧ σ'.1 a0 1 = w ∧ σ'.1 a0 2 = v ∧ (∀ a k, ¬ (a = a0 ∧ (k = 1 ∨ k = 2)) → σ'.1 a k = σ.1 a k) ∧ (∀ k, k < 40 → σ'.2 (a0 + 1) k = 0) ∧ ∀ a k, a ≠ a0 + 1 → σ'.2 a k = σ.2 a k := by
  unfold m_X8_begin
  simp only [nu_lit]
  rw [nu_let, nu_let]
  obtain ⟨σ', v1, v2, v3, v4⟩ := ex_beginLoop (fun (x0_y8 : Nat) (x3_y8) (σ_y8) => some ((), σ_y8)) (a0 := a0) 40 fm_fu 0 (fm_sI (fm_sI σ a0 1 w) a0 2 v) (by have := nu_fu; omega) (by omega)
  refine ⟨σ', v1, ?_, ?_, fun a k z => ?_, fun k hk => v3 k (by omega) hk, fun a k z => ?_⟩
  · rw [v2, nu_sI, if_neg (by omega), nu_sI, if_pos ⟨rfl, rfl⟩]
  · rw [v2, nu_sI, if_pos ⟨rfl, rfl⟩]
  · rw [v2, nu_sI, if_neg (by omega), nu_sI, if_neg (by omega)]
  · rw [v4 _ _ (by omega)]; rfl
theorem sheet_end {σ σ1 : fm_M} {s n : Nat} {w v : Int32} (h : Inv σ) (hs : s < 4) (hw : w = nI 0 ∨ w = nI 8 ∨ w = nI 16 ∨ w = nI 64) (hn : n ≤ 40) (hv : v = nI n) (h0 : w = nI 0 → n = 0) (a1 : σ1.1 (84 + 2 * s) 1 = w) (a2 : σ1.1 (84 + 2 * s) 2 = v) (a3 : ∀ a k, ¬ (a = 84 + 2 * s ∧ (k = 1 ∨ k = 2)) → σ1.1 a k = σ.1 a k) (a4 : ∀ k, k < 40 → σ1.2 (84 + 2 * s + 1) k = 0) (a5 : ∀ a k, a ≠ 84 + 2 * s + 1 → σ1.2 a k = σ.2 a k) : ∃ σ2, m_X12_sheet_83 (fun (x1_y17) (x4_y17) (σ_y17) => fm_g (fm_in1 x1_y17 4) (some ((σ_y17.1 107 x1_y17.toNatClampNeg), σ_y17))) fm_fu (nI s) (nI 0) (fm_sI (fm_sI σ1 106 s w) 107 s v) = some (v, σ2) ∧ Inv σ2 := by
  obtain ⟨σ2, v1, v2, v3, v4⟩ := em_sheetLoop (fun (x1_y17) (x4_y17) (σ_y17) => fm_g (fm_in1 x1_y17 4) (some ((σ_y17.1 107 x1_y17.toNatClampNeg), σ_y17))) hs 40 fm_fu 0 (fm_sI (fm_sI σ1 106 s w) 107 s v) (by have := nu_fu; omega) (by omega)
  have e7 : σ2.1 107 s = v := by rw [v2, nu_sI, if_pos ⟨rfl, rfl⟩]
  refine ⟨σ2, by rw [v1, nu_in hs (by decide), nu_g, nu_cl (by omega), e7], inv_S h hs (w := w) (n := n) (fun a k i1 i2 i3 i4 i5 => ?_) (fun a k i1 i2 i3 => ?_) ?_ ?_ hw hn ?_ ?_ h0 (fun i hi => ?_)⟩
  · rw [v2, nu_sI, if_neg (by omega), nu_sI, if_neg (by omega), a3 _ _ i3]
  · rw [v4 _ _ (by omega)]
    have : (fm_sI (fm_sI σ1 106 s w) 107 s v).2 = σ1.2 := rfl
    rw [this, a5 _ _ (by omega)]
  · rw [v2, nu_sI, if_neg (by omega), nu_sI, if_pos ⟨rfl, rfl⟩]
  · rw [v2, nu_sI, if_neg (by omega), nu_sI, if_neg (by omega), a1]
  · rw [v2, nu_sI, if_neg (by omega), nu_sI, if_neg (by omega), a2, hv]
  · rw [e7, hv]
  · rw [v3 i (by omega) hi, v4 _ _ (by omega)]
    have : (fm_sI (fm_sI σ1 106 s w) 107 s v).2 = σ1.2 := rfl
    rw [this, show 85 + 2 * s = 84 + 2 * s + 1 by omega, a4 i hi]
theorem op_sheet (x b v : Int32) {σ : fm_M} (h : Inv σ) : opS (m_X11_sheet x b v) (m_X12_sheet x b v) σ := by
  obtain ⟨hR, dy, np, ng, kd, jy, pr, k1, k2, k3, k4⟩ := id h
  rcases nu_ix x (n := 4) (by omega) with ⟨jx, hx, rfl⟩ | hx
  · by_cases q0 : b = nI 0
    · subst q0
      rcases nu_ix v (n := 41) (by decide) with ⟨jv, hv, rfl⟩ | hv | hv
      · obtain ⟨σ1, a0, a1, a2, a3, a4, a5⟩ := ex_begin (σ := σ) (a0 := 84 + 2 * jx) (w := nI 0) (v := nI 0)
        obtain ⟨σ2, b1, b2⟩ := sheet_end (n := 0) h hx (by decide) (by omega) rfl (by intro _; rfl) a1 a2 a3 a4 a5
        refine ⟨nI 0, σ1, σ2, ?_, ?_, b2⟩
        · unfold m_X11_sheet
          simp only [nu_lit, nu_j]
          rw [ex_isSheetT hx, nu_b, if_neg nI10, if_pos trivial, if_pos (by rw [nu_le (by omega) (by omega)]; omega), if_pos (by rw [nu_le (by omega) (by omega)]; omega), nu_in hx (by decide), nu_g, if_pos trivial, nu_cl (by omega), a0, nu_b, nu_g, a2]
        · unfold m_X12_sheet
          simp only [nu_lit, nu_j]
          rw [em_isSheetT hx, nu_b, if_neg nI10, if_pos trivial, if_pos (by rw [nu_le (by omega) (by omega)]; omega), if_pos (by rw [nu_le (by omega) (by omega)]; omega), nu_in hx (by decide), nu_g, nu_let, if_pos trivial, nu_g, nu_let, nu_cl (by omega), b1]
      · refine stp_find 6 (by decide) h ?_ (fun σ1 hs => ?_)
        · unfold m_X11_sheet
          simp only [nu_lit, fnd6]
          rw [ex_isSheetT hx, nu_b, if_neg nI10, if_pos trivial, if_neg (neg_no hv)]
        · have m1 := k4.keep (fun k => hs 97 k (by omega))
          unfold m_X12_sheet
          simp only [nu_lit, nu_j]
          rw [em_isSheetT hx, nu_b, if_neg nI10, if_pos trivial, if_neg (neg_no hv)]
      · have hv0 := big_yes hv (by decide)
        have hv1 : ¬ v ≤ nI 40 := fun z => absurd (Int32.le_trans hv z) (by decide)
        refine stp_find 0 (by decide) h ?_ (fun σ1 hs => ?_)
        · unfold m_X11_sheet
          simp only [nu_lit, fnd0]
          rw [ex_isSheetT hx, nu_b, if_neg nI10, if_pos trivial, if_pos hv0, if_neg hv1]
        · have m1 := k4.keep (fun k => hs 97 k (by omega))
          unfold m_X12_sheet
          simp only [nu_lit, nu_j]
          rw [em_isSheetT hx, nu_b, if_neg nI10, if_pos trivial, if_pos hv0, if_neg hv1]
    · by_cases q8 : b = nI 8
      · subst q8
        rcases nu_ix v (n := 41) (by decide) with ⟨jv, hv, rfl⟩ | hv | hv
        · obtain ⟨σ1, a0, a1, a2, a3, a4, a5⟩ := ex_begin (σ := σ) (a0 := 84 + 2 * jx) (w := nI 8) (v := nI jv)
          obtain ⟨σ2, b1, b2⟩ := sheet_end (n := jv) h hx (by decide) (by omega) rfl (by intro z; exact absurd z (by decide)) a1 a2 a3 a4 a5
          refine ⟨nI jv, σ1, σ2, ?_, ?_, b2⟩
          · unfold m_X11_sheet
            simp only [nu_lit, nu_j]
            rw [ex_isSheetT hx, nu_b, if_neg nI10, if_neg (by decide), if_pos trivial, if_pos (by rw [nu_le (by omega) (by omega)]; omega), if_pos (by rw [nu_le (by omega) (by omega)]; omega), nu_in hx (by decide), nu_g, if_neg (by decide), nu_cl (by omega), a0, nu_b, nu_g, a2]
          · unfold m_X12_sheet
            simp only [nu_lit, nu_j]
            rw [em_isSheetT hx, nu_b, if_neg nI10, if_neg (by decide), if_pos trivial, if_pos (by rw [nu_le (by omega) (by omega)]; omega), if_pos (by rw [nu_le (by omega) (by omega)]; omega), nu_in hx (by decide), nu_g, nu_let, if_neg (by decide), nu_g, nu_let, nu_cl (by omega), b1]
        · refine stp_find 6 (by decide) h ?_ (fun σ1 hs => ?_)
          · unfold m_X11_sheet
            simp only [nu_lit, fnd6]
            rw [ex_isSheetT hx, nu_b, if_neg nI10, if_neg (by decide), if_pos trivial, if_neg (neg_no hv)]
          · have m1 := k4.keep (fun k => hs 97 k (by omega))
            unfold m_X12_sheet
            simp only [nu_lit, nu_j]
            rw [em_isSheetT hx, nu_b, if_neg nI10, if_neg (by decide), if_pos trivial, if_neg (neg_no hv)]
        · have hv0 := big_yes hv (by decide)
          have hv1 : ¬ v ≤ nI 40 := fun z => absurd (Int32.le_trans hv z) (by decide)
          refine stp_find 0 (by decide) h ?_ (fun σ1 hs => ?_)
          · unfold m_X11_sheet
            simp only [nu_lit, fnd0]
            rw [ex_isSheetT hx, nu_b, if_neg nI10, if_neg (by decide), if_pos trivial, if_pos hv0, if_neg hv1]
          · have m1 := k4.keep (fun k => hs 97 k (by omega))
            unfold m_X12_sheet
            simp only [nu_lit, nu_j]
            rw [em_isSheetT hx, nu_b, if_neg nI10, if_neg (by decide), if_pos trivial, if_pos hv0, if_neg hv1]
      · by_cases q16 : b = nI 16
        · subst q16
          rcases nu_ix v (n := 41) (by decide) with ⟨jv, hv, rfl⟩ | hv | hv
          · obtain ⟨σ1, a0, a1, a2, a3, a4, a5⟩ := ex_begin (σ := σ) (a0 := 84 + 2 * jx) (w := nI 16) (v := nI jv)
            obtain ⟨σ2, b1, b2⟩ := sheet_end (n := jv) h hx (by decide) (by omega) rfl (by intro z; exact absurd z (by decide)) a1 a2 a3 a4 a5
            refine ⟨nI jv, σ1, σ2, ?_, ?_, b2⟩
            · unfold m_X11_sheet
              simp only [nu_lit, nu_j]
              rw [ex_isSheetT hx, nu_b, if_neg nI10, if_neg (by decide), if_neg (by decide), if_pos trivial, if_pos (by rw [nu_le (by omega) (by omega)]; omega), if_pos (by rw [nu_le (by omega) (by omega)]; omega), nu_in hx (by decide), nu_g, if_neg (by decide), nu_cl (by omega), a0, nu_b, nu_g, a2]
            · unfold m_X12_sheet
              simp only [nu_lit, nu_j]
              rw [em_isSheetT hx, nu_b, if_neg nI10, if_neg (by decide), if_neg (by decide), if_pos trivial, if_pos (by rw [nu_le (by omega) (by omega)]; omega), if_pos (by rw [nu_le (by omega) (by omega)]; omega), nu_in hx (by decide), nu_g, nu_let, if_neg (by decide), nu_g, nu_let, nu_cl (by omega), b1]
          · refine stp_find 6 (by decide) h ?_ (fun σ1 hs => ?_)
            · unfold m_X11_sheet
              simp only [nu_lit, fnd6]
              rw [ex_isSheetT hx, nu_b, if_neg nI10, if_neg (by decide), if_neg (by decide), if_pos trivial, if_neg (neg_no hv)]
            · have m1 := k4.keep (fun k => hs 97 k (by omega))
              unfold m_X12_sheet
              simp only [nu_lit, nu_j]
              rw [em_isSheetT hx, nu_b, if_neg nI10, if_neg (by decide), if_neg (by decide), if_pos trivial, if_neg (neg_no hv)]
          · have hv0 := big_yes hv (by decide)
            have hv1 : ¬ v ≤ nI 40 := fun z => absurd (Int32.le_trans hv z) (by decide)
            refine stp_find 0 (by decide) h ?_ (fun σ1 hs => ?_)
            · unfold m_X11_sheet
              simp only [nu_lit, fnd0]
              rw [ex_isSheetT hx, nu_b, if_neg nI10, if_neg (by decide), if_neg (by decide), if_pos trivial, if_pos hv0, if_neg hv1]
            · have m1 := k4.keep (fun k => hs 97 k (by omega))
              unfold m_X12_sheet
              simp only [nu_lit, nu_j]
              rw [em_isSheetT hx, nu_b, if_neg nI10, if_neg (by decide), if_neg (by decide), if_pos trivial, if_pos hv0, if_neg hv1]
        · by_cases q64 : b = nI 64
          · subst q64
            rcases nu_ix v (n := 41) (by decide) with ⟨jv, hv, rfl⟩ | hv | hv
            · obtain ⟨σ1, a0, a1, a2, a3, a4, a5⟩ := ex_begin (σ := σ) (a0 := 84 + 2 * jx) (w := nI 64) (v := nI jv)
              obtain ⟨σ2, b1, b2⟩ := sheet_end (n := jv) h hx (by decide) (by omega) rfl (by intro z; exact absurd z (by decide)) a1 a2 a3 a4 a5
              refine ⟨nI jv, σ1, σ2, ?_, ?_, b2⟩
              · unfold m_X11_sheet
                simp only [nu_lit, nu_j]
                rw [ex_isSheetT hx, nu_b, if_neg nI10, if_neg (by decide), if_neg (by decide), if_neg (by decide), if_pos trivial, if_pos (by rw [nu_le (by omega) (by omega)]; omega), if_pos (by rw [nu_le (by omega) (by omega)]; omega), nu_in hx (by decide), nu_g, if_neg (by decide), nu_cl (by omega), a0, nu_b, nu_g, a2]
              · unfold m_X12_sheet
                simp only [nu_lit, nu_j]
                rw [em_isSheetT hx, nu_b, if_neg nI10, if_neg (by decide), if_neg (by decide), if_neg (by decide), if_pos trivial, if_pos (by rw [nu_le (by omega) (by omega)]; omega), if_pos (by rw [nu_le (by omega) (by omega)]; omega), nu_in hx (by decide), nu_g, nu_let, if_neg (by decide), nu_g, nu_let, nu_cl (by omega), b1]
            · refine stp_find 6 (by decide) h ?_ (fun σ1 hs => ?_)
              · unfold m_X11_sheet
                simp only [nu_lit, fnd6]
                rw [ex_isSheetT hx, nu_b, if_neg nI10, if_neg (by decide), if_neg (by decide), if_neg (by decide), if_pos trivial, if_neg (neg_no hv)]
              · have m1 := k4.keep (fun k => hs 97 k (by omega))
                unfold m_X12_sheet
                simp only [nu_lit, nu_j]
                rw [em_isSheetT hx, nu_b, if_neg nI10, if_neg (by decide), if_neg (by decide), if_neg (by decide), if_pos trivial, if_neg (neg_no hv)]
            · have hv0 := big_yes hv (by decide)
              have hv1 : ¬ v ≤ nI 40 := fun z => absurd (Int32.le_trans hv z) (by decide)
              refine stp_find 0 (by decide) h ?_ (fun σ1 hs => ?_)
              · unfold m_X11_sheet
                simp only [nu_lit, fnd0]
                rw [ex_isSheetT hx, nu_b, if_neg nI10, if_neg (by decide), if_neg (by decide), if_neg (by decide), if_pos trivial, if_pos hv0, if_neg hv1]
              · have m1 := k4.keep (fun k => hs 97 k (by omega))
                unfold m_X12_sheet
                simp only [nu_lit, nu_j]
                rw [em_isSheetT hx, nu_b, if_neg nI10, if_neg (by decide), if_neg (by decide), if_neg (by decide), if_pos trivial, if_pos hv0, if_neg hv1]
          · refine stp_find 0 (by decide) h ?_ (fun σ1 hs => ?_)
            · unfold m_X11_sheet
              simp only [nu_lit, fnd0]
              rw [ex_isSheetT hx, nu_b, if_neg nI10, if_neg q0, if_neg q8, if_neg q16, if_neg q64]
            · have m1 := k4.keep (fun k => hs 97 k (by omega))
              unfold m_X12_sheet
              simp only [nu_lit, nu_j]
              rw [em_isSheetT hx, nu_b, if_neg nI10, if_neg q0, if_neg q8, if_neg q16, if_neg q64]
  · refine stp_find 0 (by decide) h ?_ (fun σ1 hs => ?_)
    · unfold m_X11_sheet
      simp only [nu_lit, fnd0]
      rw [ex_isSheetF hx, nu_b, if_pos rfl]
    · have m1 := k4.keep (fun k => hs 97 k (by omega))
      unfold m_X12_sheet
      simp only [nu_lit, nu_j]
      rw [em_isSheetF hx, nu_b, if_pos rfl]
-- one number
def wid (w : Int32) (v : Int64) : Int64 := if w = nI 8 then ((v.toInt32).toInt8.toInt32).toInt64 else if w = nI 16 then ((v.toInt32).toInt16.toInt32).toInt64 else v
theorem ex_put {σ : fm_M} {a i n : Nat} {v : Int64} (hi : i < n) (hn : n ≤ 40) (h : σ.1 a 2 = nI n) : m_X8_put a (nI i) v σ = some ((), fm_sL σ (a + 1) i (wid (σ.1 a 1) v)) := by
  unfold m_X8_put wid
  simp only [nu_lit]
  rw [if_neg (by rw [nu_lt (by omega) (by omega)]; omega), h, if_pos (by rw [nu_lt (by omega) (by omega)]; omega), nu_in (by omega) (by decide), nu_g, nu_g, nu_g, nu_let, nu_let, nu_let, nu_cl (by omega)]
  by_cases z : σ.1 a 1 = nI 8
  · rw [if_pos z, if_pos z]
  · rw [if_neg z, if_neg z]
    by_cases z2 : σ.1 a 1 = nI 16
    · rw [if_pos z2, if_pos z2]
    · rw [if_neg z2, if_neg z2]
theorem em_told {σ : fm_M} {s i : Nat} (hs : s < 4) (hi : i < 40) : m_X12_told (nI s) (nI i) σ = some (σ.2 108 (40 * s + i), σ) := by
  unfold m_X12_told
  simp only [nu_lit, pk_mul, nI_add]
  rw [nu_in (by omega) (by decide), nu_g, nu_cl (by omega)]
theorem em_tells {σ : fm_M} {s i : Nat} {v : Int64} (hs : s < 4) (hi : i < 40) : m_X12_tells (nI s) (nI i) v σ = some ((), fm_sL σ 108 (40 * s + i) (wid (σ.1 106 s) v)) := by
  unfold m_X12_tells wid
  simp only [nu_lit, pk_mul, nI_add, nu_j]
  rw [nu_in hs (by decide), nu_g, nu_g, nu_cl (n := s) (by omega), nu_in (by omega) (by decide), nu_g, nu_g, nu_g, nu_let, nu_let, nu_let, nu_cl (by omega)]
  by_cases z : σ.1 106 s = nI 8
  · rw [if_pos z, if_pos z]
  · rw [if_neg z, if_neg z]
    by_cases z2 : σ.1 106 s = nI 16
    · rw [if_pos z2, if_pos z2]
    · rw [if_neg z2, if_neg z2]
theorem op_write (x i : Int32) (v : Int64) {σ : fm_M} (h : Inv σ) : opL (m_X11_write x i v) (m_X12_write x i v) σ := by
  obtain ⟨hR, dy, np, ng, kd, jy, pr, k1, k2, k3, k4⟩ := id h
  rcases nu_ix x (n := 4) (by omega) with ⟨jx, hx, rfl⟩ | hx
  · obtain ⟨g1, g2, n, g3, g4, g5, g6, g7⟩ := hR.2.2.1 jx hx
    by_cases z : σ.1 (84 + 2 * jx) 1 = nI 0
    · refine stp_findL 5 (by decide) h ?_ (fun σ1 hs => ?_)
      · unfold m_X11_write
        simp only [nu_lit, fnd5]
        rw [ex_isSheetT hx, nu_b, if_neg nI10, nu_in hx (by decide), nu_g, nu_cl (by omega), ex_missing, nu_b, if_pos z, if_neg nI10]
      · unfold m_X12_write
        simp only [nu_lit, nu_j]
        rw [em_wrongT hx, nu_b, hs _ _ (by omega), g1, if_pos z, if_pos (by decide), if_neg (by decide)]
    · rcases nu_ix i (n := n) (by omega) with ⟨ji, hi, rfl⟩ | hi
      · have e1 : ∀ a, a ≠ 84 + 2 * jx + 1 → ∀ k, (fm_sL σ (84 + 2 * jx + 1) ji (wid (σ.1 (84 + 2 * jx) 1) v)).2 a k = σ.2 a k := fun a ha k => by rw [nu_sL, if_neg (by omega)]
        refine ⟨σ.2 (84 + 2 * jx + 1) ji, fm_sL σ (84 + 2 * jx + 1) ji (wid (σ.1 (84 + 2 * jx) 1) v), fm_sL (fm_sL σ (84 + 2 * jx + 1) ji (wid (σ.1 (84 + 2 * jx) 1) v)) 108 (40 * jx + ji) (wid (σ.1 106 jx) v), ?_, ?_, ?_⟩
        · unfold m_X11_write
          simp only [nu_lit]
          rw [ex_isSheetT hx, nu_b, if_neg nI10, nu_in hx (by decide), nu_g, nu_cl (n := jx) (by omega), ex_missing, nu_b, if_neg z, if_pos rfl, nu_g, g4, nu_sub (by omega), ex_wT (by omega) (by omega) (by omega), nu_b, if_neg nI10, nu_g, nu_in (by omega) (by decide), nu_g, nu_g, ex_put hi g3 g4, nu_b, nu_cl (by omega)]
        · unfold m_X12_write
          simp only [nu_lit, nu_j]
          rw [em_wrongT hx, nu_b, show (fm_sL σ (84 + 2 * jx + 1) ji (wid (σ.1 (84 + 2 * jx) 1) v)).1 = σ.1 from rfl, g1, if_neg z, if_neg (by decide), nu_in hx (by decide), nu_g, nu_cl (n := jx) (by omega), g5, nu_sub (by omega), em_in1T _ (by omega) (by omega) (by omega), nu_b, if_neg nI10, if_pos (by decide), em_told hx (by omega), nu_b, em_tells hx (by omega), nu_b, e1 _ (by omega), g7 ji (by omega), show 85 + 2 * jx = 84 + 2 * jx + 1 by omega, show (fm_sL σ (84 + 2 * jx + 1) ji (wid (σ.1 (84 + 2 * jx) 1) v)).1 106 jx = σ.1 (84 + 2 * jx) 1 from g1]
        · refine inv_S h hx (w := σ.1 (84 + 2 * jx) 1) (n := n) (fun a k _ _ _ _ _ => rfl) (fun a k i1 i2 i3 => ?_) g1 rfl g2 g3 g4 g5 g6 (fun t ht => ?_)
          · rw [nu_sL, if_neg (by omega), nu_sL, if_neg (by omega)]
          · by_cases y : t = ji
            · subst y
              rw [nu_sL, if_pos ⟨rfl, rfl⟩, nu_sL, if_neg (by omega), nu_sL, if_pos ⟨by omega, rfl⟩, g1]
            · rw [nu_sL, if_neg (by omega), nu_sL, if_neg (by omega), nu_sL, if_neg (by omega), nu_sL, if_neg (by omega)]
              exact g7 t ht
      · refine stp_findL 0 (by decide) h ?_ (fun σ1 hs => ?_)
        · unfold m_X11_write
          simp only [nu_lit, fnd0]
          rw [ex_isSheetT hx, nu_b, if_neg nI10, nu_in hx (by decide), nu_g, nu_cl (n := jx) (by omega), ex_missing, nu_b, if_neg z, if_pos rfl, nu_g, g4, em_within, if_neg (in_F0 hi (by omega)), nu_b, if_pos rfl]
        · unfold m_X12_write
          simp only [nu_lit, nu_j]
          rw [em_wrongT hx, nu_b, hs _ _ (by omega), g1, if_neg z, if_neg (by decide), nu_in hx (by decide), nu_g, nu_cl (n := jx) (by omega), hs _ _ (by omega), g5, em_in1, if_neg (in_F0 hi (by omega)), nu_b, if_pos rfl, if_neg (by decide)]
  · refine stp_findL 0 (by decide) h ?_ (fun σ1 hs => ?_)
    · unfold m_X11_write
      simp only [nu_lit, fnd0]
      rw [ex_isSheetF hx, nu_b, if_pos rfl]
    · unfold m_X12_write
      simp only [nu_lit, nu_j]
      rw [em_wrongF hx, nu_b, if_pos (by decide), if_neg (by decide)]
