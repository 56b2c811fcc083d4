theorem em_jbLoop (kc : Int32 → Int32 → Int32 → Int32 → fm_M → Option (Int32 × fm_M)) {g : Nat} {z3 : Int32} (hg : g < 8) : ∀ (n fuel z : Nat) (σ : fm_M), n < fuel → dgs n z → vd n z = true → n ≤ 5 → z < 2 ^ 20 → ∃ σ', m_X12_joyBy_17 kc fuel (nI g) z3 (zi n) (nI z) σ = kc (nI g) z3 (-nI 1) (nI 0) σ' ∧ (∀ k, k < n → σ'.1 97 (16 + 10 * g + (4 + k)) = nI (dg n (cz n z) k)) ∧ fEq (fun a k => a = 97 ∧ 16 + 10 * g + 4 ≤ k ∧ k < 16 + 10 * g + 4 + n) σ σ' := by
  intro n
  induction n with
  | zero =>
    intro fuel z σ hf hz hv h5 hb
    obtain ⟨m, rfl⟩ : ∃ m, fuel = m + 1 := ⟨fuel - 1, by omega⟩
    have e : z = 0 := hz
    subst e
    refine ⟨σ, ?_, fun k hk => by omega, fEq.rf⟩
    rw [m_X12_joyBy_17]
    simp only [nu_lit]
    rw [if_pos (by decide)]
    rfl
  | succ n ih =>
    intro fuel z σ hf hz hv h5 hb
    obtain ⟨m, rfl⟩ : ∃ m, fuel = m + 1 := ⟨fuel - 1, by omega⟩
    have hz0 := hz.1
    rw [vd, Bool.and_eq_true, decide_eq_true_eq] at hv
    obtain ⟨⟨v1, v2⟩, v3⟩ := hv
    obtain ⟨σ', w1, w2, w3⟩ := ih m (z / 10) (fm_sI σ 97 (16 + 10 * g + (4 + n)) (nI (z % 10 - 1))) (by omega) hz.2 v3 (by omega) (by omega)
    refine ⟨σ', ?_, fun k hk => ?_, ?_⟩
    · rw [m_X12_joyBy_17, show zi (n + 1) = nI n from rfl]
      simp only [nu_lit, nI_add]
      rw [if_neg (by rw [nu_le (by omega) (by omega)]; omega), nu_rem (by omega) (by decide) (by decide), nu_div (by omega) (by decide) (by decide), nu_sub v1, em_lays1 _ (by omega), nu_b, zi_next]
      exact w1
    · rw [dg, cz]
      by_cases y : k = n
      · subst y
        rw [w3.1 _ _ (by omega), nu_sI, if_pos ⟨rfl, rfl⟩, if_pos rfl, show (4 * cz k (z / 10) + (z % 10 - 1)) % 4 = z % 10 - 1 by omega]
      · rw [w2 k (by omega), if_neg y, show (4 * cz n (z / 10) + (z % 10 - 1)) / 4 = cz n (z / 10) by omega]
    · exact fEq.tr (S := fun a k => a = 97 ∧ 16 + 10 * g + 4 ≤ k ∧ k < 16 + 10 * g + 4 + (n + 1)) (fEq.set (S := fun a k => a = 97 ∧ 16 + 10 * g + 4 ≤ k ∧ k < 16 + 10 * g + 4 + (n + 1)) ⟨rfl, by omega, by omega⟩) w3 (fun _ _ q => q) (fun a k q => ⟨q.1, q.2.1, by omega⟩)
theorem em_joyBy {σ : fm_M} {dy np ng g N L z : Nat} {kd jy : Nat → Nat} {pr : Nat → Nat → Nat} (ho : tOk dy np ng kd jy pr) (h9 : dy ≤ 9999) (hN : N ≤ 30) (hg : g < ng) (h1 : 1 ≤ L) (hL : L ≤ 5) (h0 : pr g 0 = L) (hz : dgs L z) (hv : vd L z = true) (hb : z < 2 ^ 20) (ht : mTown σ 97 dy np ng kd jy pr) : ∃ σ', m_X12_joyBy (nI g) (nI z) (nI N) σ = some (nI (tOrd np ng N dy kd jy pr g L (cz L z)), σ') ∧ fEq sM σ σ' := by
  have o2 := ho.2.1
  obtain ⟨τ1, u1, u2, u3⟩ := em_start σ
  have t1 := ht.keep u3
  have rk := ho.2.2.2.2 g hg
  have ok := ho.setP (g := g) (x := rL (pr g) (dg L (cz L z)) L) (rL_ok rk.1 (by omega) (fun i _ => dg_lt _ _ _)) (by unfold rL; rw [if_neg (by omega), if_neg (by omega)]; exact rk.2)
  unfold m_X12_joyBy
  simp only [nu_lit]
  obtain ⟨τ2, w1, w2, w3⟩ := em_jbLoop (fun (x1_y10) (x3_y10) (x4_y10) (x5_y10) (σ_y10) => fm_b (m_X12_joyThen (-nI 1) x3_y10 σ_y10) fun r11 σ12 => (some (r11, σ12))) (z3 := nI N) (show g < 8 by omega) L fm_fu z τ1 (by have := nu_fu; omega) hz hv hL hb
  have p3 : fEq (sP g) τ1 τ2 := w3.mono (fun a k q => ⟨q.1, by omega, by omega⟩)
  have nrec : mRec τ2 97 g (rL (pr g) (dg L (cz L z)) L) := fun f hf => by
    have hf' : f < 4 + L := hf
    have old := t1.2.2.2.2 g hg
    by_cases q4 : f < 4
    · rw [w3.1 _ _ (by omega), old f (by omega)]
      unfold rL
      by_cases q : f = 0
      · rw [if_pos q, q, h0]
      · rw [if_neg q, if_neg (by omega)]
    · have := w2 (f - 4) (by omega)
      rw [show 4 + (f - 4) = f by omega] at this
      rw [this]
      unfold rL
      rw [if_neg (by omega), if_pos (by omega)]
  obtain ⟨σ', y1, y2⟩ := em_joyAll (N := N) (by omega) ok (by omega) (t1.setP ho nrec p3) (u2.go p3 sP_18)
  refine ⟨σ', ?_, y2⟩
  rw [u1, nu_b, em_of1 _ (by omega), nu_b, t1.2.2.2.2 g hg 0 (by omega), h0, nu_sub h1, show nI (L - 1) = zi L from by unfold zi; rw [if_neg (by omega)], w1, y1, nu_b]
  rfl
