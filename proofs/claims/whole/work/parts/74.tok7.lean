/-! a town is told -/
theorem op_town {σ : fm_M} (h : Inv σ) : opS m_X11_town m_X12_town σ := by
  obtain ⟨hR, dy, np, ng, kd, jy, pr, k1, k2, k3, k4⟩ := id h
  obtain ⟨n, n1, n2, n3, n4⟩ := hR.2.1
  have hC := hR.2.2.2.2
  have hb : btOk (fun i => (σ.1 93 i).toNatClampNeg) n := ⟨n1, fun i hi => by
    obtain ⟨-, v, v1, v2⟩ := n4 i hi
    dsimp only
    rw [v2, nu_cl (by omega)]
    exact v1⟩
  have be : ∀ i, i < n → σ.1 93 i = nI ((σ.1 93 i).toNatClampNeg) := fun i hi => by
    obtain ⟨-, v, v1, v2⟩ := n4 i hi
    rw [v2, nu_cl (by omega)]
  generalize hbt : (fun i => (σ.1 93 i).toNatClampNeg) = bt at hb
  have be : ∀ i, i < n → σ.1 93 i = nI (bt i) := fun i hi => by rw [← hbt]; exact be i hi
  have bm : ∀ i, i < n → σ.1 102 i = nI (bt i) := fun i hi => by rw [(n4 i hi).1]; exact be i hi
  obtain ⟨σ2, a1, a2, a3⟩ := ex_startTrial k1 k3
  have tX : tpX σ2 bt n := ⟨by rw [a3.1 _ _ (by unfold sX; omega)]; exact n2, fun i hi => by rw [a3.1 _ _ (by unfold sX; omega)]; exact be i hi⟩
  have simM : ∀ τ : fm_M, (∀ k, τ.1 97 k = σ.1 97 k) → τ.1 96 8 = σ.1 96 8 → (∀ a k, 102 ≤ a → a ≤ 105 → τ.1 a k = σ.1 a k) → mTown τ 97 dy np ng kd jy pr ∧ tpM τ bt n ∧ iC τ := fun τ q1 q2 q3 => ⟨k4.keep q1, ⟨by rw [q2]; exact n3, fun i hi => by rw [q3 _ _ (by omega) (by omega)]; exact bm i hi⟩, hC.keep (fun a k i1 i2 => q3 _ _ (by omega) i2)⟩
  obtain ⟨m0, m1, m2⟩ := simM σ (fun _ => rfl) rfl (fun _ _ _ _ => rfl)
  obtain ⟨σX, σM0, b1, -, b3⟩ := town_sim hb k1 a2 m0 tX m1 m2
  -- the reference's run behind the class's
  have hM : ∀ τ : fm_M, (∀ a k, ¬ ((8 ≤ a ∧ a < 33) ∨ sX a k ∨ (a = 92 ∧ k = 1)) → τ.1 a k = σ.1 a k) → ∃ ρ : fm_M, m_X12_setsAside τ = some ((), ρ) ∧ (∀ k, k < 96 → ρ.1 99 k = σ.1 97 k) ∧ fEq (fun a k => a = 99 ∧ k < 96) τ ρ ∧ mTown ρ 97 dy np ng kd jy pr ∧ tpM ρ bt n ∧ iC ρ := by
    intro τ ht
    obtain ⟨ρ, c1, c2, c3⟩ := em_setsAside τ
    have q : ∀ a k, a ≠ 99 → ¬ ((8 ≤ a ∧ a < 33) ∨ sX a k ∨ (a = 92 ∧ k = 1)) → ρ.1 a k = σ.1 a k := fun a k i1 i2 => by rw [c3.1 _ _ (by omega), ht _ _ i2]
    exact ⟨ρ, c1, fun k hk => by rw [c2 k hk, ht _ _ (by unfold sX; omega)], c3, simM ρ (fun k => q _ _ (by omega) (by unfold sX; omega)) (q _ _ (by omega) (by unfold sX; omega)) (fun a k i1 i2 => q _ _ (by omega) (by unfold sX; omega))⟩
  have i : ∀ a k, sFM a k → sFM a k := fun _ _ y => y
  rcases b3 with ⟨z', qp, qg, qk, qj, qr, z1, z2, z3, -, -, z6, z7, -⟩ | ⟨qz, qm, s', z1, z2, -⟩
  · -- a good text
    have f7 : fEq sX σ σX := qX.tr a3 b1
    obtain ⟨σ10, d1, d2, d3⟩ := ex_become (b := 8) (c := 58) (by omega) z6 (z7.keep z6 (σ' := fm_sI σX 92 1 (nI 0)) (fun a k i1 i2 => by rw [nu_sI, if_neg (by omega)]))
    have e10 : ∀ a k, ¬ ((8 ≤ a ∧ a < 33) ∨ sX a k ∨ (a = 92 ∧ k = 1)) → σ10.1 a k = σ.1 a k := fun a k q => by rw [d3.1 _ _ (fun y => q (Or.inl ⟨y.1, by have := y.2; omega⟩)), nu_sI, if_neg (fun y => q (Or.inr (Or.inr y))), f7.1 _ _ (fun y => q (Or.inr (Or.inl y)))]
    obtain ⟨ρ, c1, c2, c3, c4, c5, c6⟩ := hM σ10 e10
    obtain ⟨σX2, σM, g1, g2, g3⟩ := town_sim hb k1 a2 c4 tX c5 c6
    have hX : m_X11_town σ = some (nI z', σ10) := by
      unfold m_X11_town
      simp only [nu_lit]
      rw [a1, nu_b, z3, nu_b, nu_let, if_neg (by rw [nu_lt (by omega) (by decide)]; omega), d1, nu_b]
    rcases g3 with ⟨zz, np', ng', kd', jy', pr', y1, y2, y3, y4, y5, y6, y7, y8⟩ | ⟨qz, qm, s', y1, y2, -⟩
    · rw [z3] at y3
      obtain ⟨w1, w2⟩ := Prod.mk.inj (Option.some.inj y3)
      have ew : zz = z' := by
        have := w1.symm
        rw [nu_eq (by omega) (by omega)] at this
        exact this
      subst ew
      subst w2
      obtain ⟨σ11, u1, u2, u3⟩ := ex_become (b := 8) (c := 58) (by omega) y6 (y7.keep y6 (σ' := fm_sI σX 92 1 (nI 0)) (fun a k i1 i2 => by rw [nu_sI, if_neg (by omega)]))
      rw [d1] at u1
      have ue := (Prod.mk.inj (Option.some.inj u1)).2
      subst ue
      refine ⟨nI zz, σ10, fm_sI σM 96 8 (nI 0), hX, ?_, ?_⟩
      · unfold m_X12_town
        simp only [nu_lit, nu_j]
        rw [c1, nu_b, nu_let, y4, if_neg nI10, y5, if_pos rfl, nu_let, if_neg nI10]
      · have eF : ∀ a k, ¬ ((8 ≤ a ∧ a < 33) ∨ sX a k ∨ (a = 92 ∧ k = 1)) → ¬ sFM a k → ¬ (a = 96 ∧ k = 8) → a ≠ 99 → (fm_sI σM 96 8 (nI 0)).1 a k = σ.1 a k := fun a k q1 q2 q3 q4 => by rw [nu_sI, if_neg q3, g2.1 _ _ q2, c3.1 _ _ (by omega), e10 _ _ q1]
        have e97 : ∀ a k, ¬ sFM a k → ¬ (a = 96 ∧ k = 8) → a ≠ 99 → (fm_sI σM 96 8 (nI 0)).1 a k = σ10.1 a k := fun a k q2 q3 q4 => by rw [nu_sI, if_neg q3, g2.1 _ _ q2, c3.1 _ _ (by omega)]
        refine inv_town hR (fun a k q => eF a k (by unfold sTW at q; unfold sX; omega) (by unfold sTW at q; unfold sFM sTM; omega) (by unfold sTW at q; omega) (by unfold sTW at q; omega)) (fun a k q => ?_) ?_ ?_ y6 k2 (u2.keep y6 (fun a k i1 i2 => e97 _ _ (by unfold sFM sTM; omega) (by omega) (by omega))) (y8.keep (fun k => by rw [nu_sI, if_neg (by omega)]))
        · rw [nu_sI2, g2.2 _ _ (by omega), c3.2, d3.2, nu_sI2, f7.2]
        · rw [e97 _ _ (by unfold sFM sTM; omega) (by omega) (by omega), d3.1 _ _ (fun y => by have := y.2; omega), nu_sI, if_pos ⟨rfl, rfl⟩]
        · rw [nu_sI, if_pos ⟨rfl, rfl⟩]
    · exfalso
      rw [z3] at y2
      obtain ⟨w1, -⟩ := Prod.mk.inj (Option.some.inj y2)
      have q := neg_s s' (by omega)
      rw [← w1] at q
      exact nI_pos (by omega) q
  · -- a fault
    have f7 : fEq sX σ σX := qX.tr a3 b1
    have ng := neg_s s' (by omega)
    have e10 : ∀ a k, ¬ ((8 ≤ a ∧ a < 33) ∨ sX a k ∨ (a = 92 ∧ k = 1)) → (fm_sI σX 92 1 (nI 0)).1 a k = σ.1 a k := fun a k q => by rw [nu_sI, if_neg (fun y => q (Or.inr (Or.inr y))), f7.1 _ _ (fun y => q (Or.inr (Or.inl y)))]
    obtain ⟨ρ, c1, c2, c3, c4, c5, c6⟩ := hM (fm_sI σX 92 1 (nI 0)) e10
    obtain ⟨σX2, σM, g1, g2, g3⟩ := town_sim hb k1 a2 c4 tX c5 c6
    have hX : m_X11_town σ = some (-nI 1 - nI s', fm_sI σX 92 1 (nI 0)) := by
      unfold m_X11_town
      simp only [nu_lit]
      rw [a1, nu_b, z2, nu_b, nu_let, if_pos ng]
    rcases g3 with ⟨zz, qp, qg, qk, qj, qr, y1, y2, y3, -⟩ | ⟨zM, rM, s2, y1, y2, y3, y4, y5⟩
    · exfalso
      rw [z2] at y3
      obtain ⟨w1, -⟩ := Prod.mk.inj (Option.some.inj y3)
      rw [w1] at ng
      exact nI_pos (by omega) ng
    · rw [z2] at y2
      obtain ⟨w1, w2⟩ := Prod.mk.inj (Option.some.inj y2)
      obtain ⟨σE, l1, l2, l3⟩ := em_laysBack (fm_sI σM 96 8 (nI 0))
      refine ⟨-nI 1 - nI s', fm_sI σX 92 1 (nI 0), σE, hX, ?_, ?_⟩
      · have e0 : σE.1 96 10 = nI s2 := by rw [l3.1 _ _ (by omega), nu_sI, if_neg (by omega)]; exact y5
        unfold m_X12_town
        simp only [nu_lit, nu_j]
        rw [c1, nu_b, nu_let, y3]
        rcases y4 with rfl | ⟨rfl, y4⟩
        · rw [if_pos rfl, nu_let, if_pos trivial, l1, nu_b, e0, w1]
        · rw [if_neg nI10, if_neg y4, nu_let, if_pos trivial, l1, nu_b, e0, w1]
      · have eF : ∀ a k, ¬ ((8 ≤ a ∧ a < 33) ∨ sX a k ∨ (a = 92 ∧ k = 1)) → ¬ sFM a k → ¬ (a = 96 ∧ k = 8) → a ≠ 99 → a ≠ 97 → σE.1 a k = σ.1 a k := fun a k q1 q2 q3 q4 q5 => by rw [l3.1 _ _ (by omega), nu_sI, if_neg q3, g2.1 _ _ q2, c3.1 _ _ (by omega), e10 _ _ q1]
        have e97 : ∀ k, k < 96 → σE.1 97 k = σ.1 97 k := fun k hk => by rw [l2 k hk, nu_sI, if_neg (by omega), g2.1 _ _ (by unfold sFM sTM; omega), c2 k hk]
        refine inv_town hR (fun a k q => eF a k (by unfold sTW at q; unfold sX; omega) (by unfold sTW at q; unfold sFM sTM; omega) (by unfold sTW at q; omega) (by unfold sTW at q; omega) (by unfold sTW at q; omega)) (fun a k q => ?_) ?_ ?_ k1 k2 (k3.keep k1 (fun a k i1 i2 => ?_)) (k4.k96 k1 e97)
        · rw [l3.2, nu_sI2, g2.2 _ _ (by omega), c3.2, nu_sI2, f7.2]
        · rw [l3.1 _ _ (by omega), nu_sI, if_neg (by omega), g2.1 _ _ (by unfold sFM sTM; omega), c3.1 _ _ (by omega), nu_sI, if_pos ⟨rfl, rfl⟩]
        · rw [l3.1 _ _ (by omega), nu_sI, if_pos ⟨rfl, rfl⟩]
        · rw [l3.1 _ _ (by omega), nu_sI, if_neg (by omega), g2.1 _ _ (by unfold sFM sTM; omega), c3.1 _ _ (by omega), nu_sI, if_neg (by omega), f7.1 _ _ (by unfold sX; omega)]
