/-! BOOKS -/
theorem ex_bookLoop (kc : Int32 → Int32 → Int32 → fm_M → Option (Int32 × fm_M)) {dy np ng s j N : Nat} {w : Int32} {kd jy : Nat → Nat} {pr : Nat → Nat → Nat} (ho : tOk dy np ng kd jy pr) (h9 : dy ≤ 9999) (hs : s < 4) (hj : j < np) (hN : N ≤ 40) : ∀ (m fuel i : Nat) (σ : fm_M), m < fuel → i + m = N → σ.1 (84 + 2 * s) 2 = nI N → σ.1 (84 + 2 * s) 1 = w → xTown σ 58 (tDays np ng kd i (dy, jy, pr)).1 np ng kd (tDays np ng kd i (dy, jy, pr)).2.1 (tDays np ng kd i (dy, jy, pr)).2.2 → ∃ σ', m_X11_book_54 kc fuel (nI s) (nI j) (nI i) σ = kc (nI s) (nI j) (nI N) σ' ∧ (∀ a k, ¬ sX a k → σ'.1 a k = σ.1 a k) ∧ (∀ k, i ≤ k → k < N → σ'.2 (84 + 2 * s + 1) k = wid w (nI ((tDays np ng kd k (dy, jy, pr)).2.1 j)).toInt64) ∧ ∀ a k, ¬ (a = 84 + 2 * s + 1 ∧ i ≤ k ∧ k < N) → σ'.2 a k = σ.2 a k := by
  have o1 := ho.1
  intro m
  induction m with
  | zero =>
    intro fuel i σ hf hi h1 h2 ht
    obtain ⟨n, rfl⟩ : ∃ n, fuel = n + 1 := ⟨fuel - 1, by omega⟩
    refine ⟨σ, ?_, fun _ _ _ => rfl, fun k i1 i2 => by omega, fun _ _ _ => rfl⟩
    rw [m_X11_book_54, nu_in hs (by decide), nu_g, nu_cl (n := s) (by omega), h1, if_pos (by rw [nu_le (by omega) (by omega)]; omega), show i = N by omega]
  | succ m ih =>
    intro fuel i σ hf hi h1 h2 ht
    obtain ⟨n, rfl⟩ : ∃ n, fuel = n + 1 := ⟨fuel - 1, by omega⟩
    obtain ⟨σ1, u1, u2, u3⟩ := ex_go1 (σ := fm_sL σ (84 + 2 * s + 1) i (wid w (nI ((tDays np ng kd i (dy, jy, pr)).2.1 j)).toInt64)) ho (by omega) ht
    have u4 : ∀ a k, ¬ sX a k → σ1.1 a k = σ.1 a k := fun a k z => u3.1 a k z
    obtain ⟨σ', v1, v2, v3, v4⟩ := ih n (i + 1) σ1 (by omega) (by omega) (by rw [u4 _ _ (by unfold sX; omega)]; exact h1) (by rw [u4 _ _ (by unfold sX; omega)]; exact h2) u2
    refine ⟨σ', ?_, fun a k z => by rw [v2 a k z, u4 a k z], fun k i1 i2 => ?_, fun a k z => ?_⟩
    · rw [m_X11_book_54, nu_in hs (by decide), nu_g, nu_cl (n := s) (by omega), h1, if_neg (by rw [nu_le (by omega) (by omega)]; omega), nu_g, nu_in (by omega) (by decide), nu_g, nu_cl (n := j) (by omega), (ht.2.2.2.1 j hj).2, ex_put (n := N) (by omega) hN h1, nu_b, h2]
      simp only [nu_lit, nI_add]
      rw [u1, nu_b]
      exact v1
    · by_cases z : k = i
      · subst z
        rw [v4 _ _ (by omega), u3.2, nu_sL, if_pos ⟨rfl, rfl⟩]
      · exact v3 k (by omega) i2
    · rw [v4 _ _ (by omega), u3.2, nu_sL, if_neg (by omega)]
theorem em_bookLoop (kc : Int32 → Int32 → Int32 → fm_M → Option (Int32 × fm_M)) {ρ : Nat → Nat → Int32} {dy np ng s j N : Nat} {w : Int32} {kd jy : Nat → Nat} {pr : Nat → Nat → Nat} (ho : tOk dy np ng kd jy pr) (h9 : dy ≤ 9999) (hs : s < 4) (hj : j < np) (hN : N ≤ 40) (r1 : ρ 107 s = nI N) (r2 : ρ 106 s = w) : ∀ (m fuel i : Nat) (τ : fm_M), m < fuel → i + m = N → mTr (ρ, τ.2) τ → mTown τ 97 (tDays np ng kd i (dy, jy, pr)).1 np ng kd (tDays np ng kd i (dy, jy, pr)).2.1 (tDays np ng kd i (dy, jy, pr)).2.2 → ∃ τ', m_X12_book_37 kc fuel (nI s) (nI j) (nI i) τ = kc (nI s) (nI j) (nI N) τ' ∧ mTr (ρ, τ'.2) τ' ∧ (∀ k, i ≤ k → k < N → τ'.2 108 (40 * s + k) = wid w (nI ((tDays np ng kd k (dy, jy, pr)).2.1 j)).toInt64) ∧ ∀ a k, ¬ (a = 108 ∧ 40 * s + i ≤ k ∧ k < 40 * s + N) → τ'.2 a k = τ.2 a k := by
  have o1 := ho.1
  intro m
  induction m with
  | zero =>
    intro fuel i τ hf hi h ht
    obtain ⟨n, rfl⟩ : ∃ n, fuel = n + 1 := ⟨fuel - 1, by omega⟩
    have q1 : τ.1 107 s = nI N := (h.2.1 107 s (by omega)).trans r1
    refine ⟨τ, ?_, h, fun k i1 i2 => by omega, fun _ _ _ => rfl⟩
    rw [m_X12_book_37, nu_in hs (by decide), nu_g, nu_cl (n := s) (by omega), q1, if_pos (by rw [nu_le (by omega) (by omega)]; omega), show i = N by omega]
  | succ m ih =>
    intro fuel i τ hf hi h ht
    obtain ⟨n, rfl⟩ : ∃ n, fuel = n + 1 := ⟨fuel - 1, by omega⟩
    have q1 : τ.1 107 s = nI N := (h.2.1 107 s (by omega)).trans r1
    have q2 : τ.1 106 s = w := (h.2.1 106 s (by omega)).trans r2
    have hL : mTr (ρ, (fm_sL τ 108 (40 * s + i) (wid w (nI ((tDays np ng kd i (dy, jy, pr)).2.1 j)).toInt64)).2) (fm_sL τ 108 (40 * s + i) (wid w (nI ((tDays np ng kd i (dy, jy, pr)).2.1 j)).toInt64)) := ⟨h.1, h.2.1, rfl⟩
    obtain ⟨τ1, u1, u2, u3⟩ := em_day1 ho (by omega) (τ := fm_sL τ 108 (40 * s + i) (wid w (nI ((tDays np ng kd i (dy, jy, pr)).2.1 j)).toInt64)) ht hL
    have u4 : τ1.2 = (fm_sL τ 108 (40 * s + i) (wid w (nI ((tDays np ng kd i (dy, jy, pr)).2.1 j)).toInt64)).2 := u3.2.2
    obtain ⟨τ', v1, v2, v3, v4⟩ := ih n (i + 1) τ1 (by omega) (by omega) (by rw [u4]; exact u3) u2
    refine ⟨τ', ?_, v2, fun k i1 i2 => ?_, fun a k z => ?_⟩
    · rw [m_X12_book_37, nu_in hs (by decide), nu_g, nu_cl (n := s) (by omega), q1, if_neg (by rw [nu_le (by omega) (by omega)]; omega)]
      simp only [nu_lit, nI_add]
      rw [em_get _ (by omega), nu_b, show 4 + 2 * j + 1 = 5 + 2 * j by omega, (ht.2.2.2.1 j hj).2, em_tells hs (by omega), nu_b, q2, u1, nu_b]
      exact v1
    · by_cases z : k = i
      · subst z
        rw [v4 _ _ (by omega), u4, nu_sL, if_pos ⟨rfl, rfl⟩]
      · exact v3 k (by omega) i2
    · rw [v4 _ _ (by omega), u4, nu_sL, if_neg (by omega)]
theorem op_book (x y : Int32) {σ : fm_M} (h : Inv σ) : opS (m_X11_book x y) (m_X12_book x y) σ := by
  obtain ⟨hR, dy, np, ng, kd, jy, pr, k1, k2, k3, k4⟩ := id h
  have o1 := k1.1
  rcases nu_ix x (n := 4) (by omega) with ⟨jx, hx, rfl⟩ | hx
  · obtain ⟨g1, g2, n, g3, g4, g5, g6, g7⟩ := hR.2.2.1 jx hx
    by_cases z : σ.1 (84 + 2 * jx) 1 = nI 0
    · refine stp_find 5 (by decide) h ?_ (fun σ1 hs => ?_)
      · unfold m_X11_book
        simp only [nu_lit, fnd5]
        rw [ex_isSheetT hx, nu_b, if_neg nI10, nu_in hx (by decide), nu_g, nu_cl (by omega), ex_missing, nu_b, if_pos z, if_neg nI10]
      · unfold m_X12_book
        simp only [nu_lit, nu_j]
        rw [em_wrongT hx, nu_b, hs _ _ (by omega), g1, if_pos z, if_pos (by decide), if_neg (by decide)]
    · rcases nu_ix y (n := np) (by omega) with ⟨j, hy, rfl⟩ | hy
      · obtain ⟨τ1, a1, a2, a3⟩ := ex_startTrial k1 k3
        obtain ⟨σ1, c1, c2, c3, c4⟩ := ex_bookLoop (fun (x1_y23) (x2_y23) (x3_y23) (σ_y23) => fm_g (fm_in1 x1_y23 4) (some ((σ_y23.1 (84 + 2 * x1_y23.toNatClampNeg) 2), σ_y23))) (w := σ.1 (84 + 2 * jx) 1) k1 k2 hx hy g3 n fm_fu 0 τ1 (by have := nu_fu; omega) (by omega) (by rw [a3.1 _ _ (by unfold sX; omega)]; exact g4) (by rw [a3.1 _ _ (by unfold sX; omega)]) a2
        have e1 : ∀ a k, ¬ sX a k → σ1.1 a k = σ.1 a k := fun a k q => by rw [c2 a k q, a3.1 a k q]
        have l1 : ∀ a k, ¬ (a = 84 + 2 * jx + 1 ∧ 0 ≤ k ∧ k < n) → σ1.2 a k = σ.2 a k := fun a k q => by rw [c4 a k q, a3.2]
        have m1 : mTown σ1 97 dy np ng kd jy pr := k4.keep (fun k => e1 _ _ (by unfold sX; omega))
        obtain ⟨τ2, d1, d2, d3⟩ := em_start σ1
        have d4 : τ2.2 = σ1.2 := d2.2.2
        obtain ⟨τ3, f1, f2, f3, f4⟩ := em_bookLoop (fun (x1_y18) (x2_y18) (x4_y18) (σ_y18) => fm_b (m_X12_laysBack  σ_y18) fun _u19 σ20 => (fm_g (fm_in1 x1_y18 4) (some ((σ20.1 107 x1_y18.toNatClampNeg), σ20)))) (ρ := σ1.1) (w := σ.1 (84 + 2 * jx) 1) k1 k2 hx hy g3 (by rw [e1 _ _ (by unfold sX; omega)]; exact g5) (by rw [e1 _ _ (by unfold sX; omega)]; exact g1) n fm_fu 0 τ2 (by have := nu_fu; omega) (by omega) ⟨d2.1, d2.2.1, rfl⟩ (m1.keep d3)
        obtain ⟨σ2, b1, b2⟩ := em_end f2
        have e2 : ∀ a k, ¬ sM a k → σ2.1 a k = σ1.1 a k := fun a k q => b2.1 a k q
        have l2 : ∀ a k, ¬ (a = 108 ∧ 40 * jx + 0 ≤ k ∧ k < 40 * jx + n) → σ2.2 a k = σ1.2 a k := fun a k q => by
          have : σ2.2 = τ3.2 := b2.2
          rw [this, f4 a k q, d4]
        have s7 : σ2.1 107 jx = nI n := by rw [e2 _ _ (by unfold sM; omega), e1 _ _ (by unfold sX; omega)]; exact g5
        refine ⟨nI n, σ1, σ2, ?_, ?_, ?_⟩
        · unfold m_X11_book
          simp only [nu_lit]
          rw [ex_isSheetT hx, nu_b, if_neg nI10, nu_in hx (by decide), nu_g, nu_cl (n := jx) (by omega), ex_missing, nu_b, if_neg z, if_pos rfl, ex_isPersonT k3.2.1 o1 hy, nu_b, if_neg nI10, a1, nu_b, c1, nu_in hx (by decide), nu_g, nu_cl (by omega), e1 _ _ (by unfold sX; omega), g4]
        · unfold m_X12_book
          simp only [nu_lit, nu_j]
          rw [em_wrongT hx, nu_b, e1 _ _ (by unfold sX; omega), g1, if_neg z, if_neg (by decide), em_isPersonT m1.2.1 o1 hy, nu_b, if_neg nI10, if_pos (by decide), d1, nu_b, f1, b1, nu_b, nu_in hx (by decide), nu_g, nu_cl (by omega), s7]
        · refine inv_S h hx (w := σ.1 (84 + 2 * jx) 1) (n := n) (fun a k i1 i2 _ _ _ => by rw [e2 a k i2, e1 a k i1]) (fun a k i1 i2 i3 => by rw [l2 _ _ (by omega), l1 _ _ (by omega)]) (by rw [e2 _ _ (by unfold sM; omega), e1 _ _ (by unfold sX; omega)]; exact g1) (by rw [e2 _ _ (by unfold sM; omega), e1 _ _ (by unfold sX; omega)]) g2 g3 (by rw [e2 _ _ (by unfold sM; omega), e1 _ _ (by unfold sX; omega)]; exact g4) s7 g6 (fun t ht => ?_)
          have q1 : ∀ k, σ2.2 (85 + 2 * jx) k = σ1.2 (85 + 2 * jx) k := fun k => l2 _ _ (by omega)
          by_cases y : t < n
          · have := f3 t (by omega) y
            have q2 : σ2.2 = τ3.2 := b2.2
            rw [q1, q2, this, show 85 + 2 * jx = 84 + 2 * jx + 1 by omega, c3 t (by omega) y]
          · rw [q1, l2 _ _ (by omega), l1 _ _ (by omega), l1 _ _ (by omega)]
            exact g7 t ht
      · refine stp_find 0 (by decide) h ?_ (fun σ1 hs => ?_)
        · unfold m_X11_book
          simp only [nu_lit, fnd0]
          rw [ex_isSheetT hx, nu_b, if_neg nI10, nu_in hx (by decide), nu_g, nu_cl (n := jx) (by omega), ex_missing, nu_b, if_neg z, if_pos rfl, ex_isPersonF k3.2.1 o1 hy, nu_b, if_pos rfl]
        · have m1 := k4.keep (fun k => hs 97 k (by omega))
          unfold m_X12_book
          simp only [nu_lit, nu_j]
          rw [em_wrongT hx, nu_b, hs _ _ (by omega), g1, if_neg z, if_neg (by decide), em_isPersonF m1.2.1 o1 hy, nu_b, if_pos rfl, if_neg (by decide)]
  · refine stp_find 0 (by decide) h ?_ (fun σ1 hs => ?_)
    · unfold m_X11_book
      simp only [nu_lit, fnd0]
      rw [ex_isSheetF hx, nu_b, if_pos rfl]
    · unfold m_X12_book
      simp only [nu_lit, nu_j]
      rw [em_wrongF hx, nu_b, if_pos (by decide), if_neg (by decide)]
