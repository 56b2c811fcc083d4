theorem em_io0 {σ : fm_M} {fuel z : Nat} (hf : 0 < fuel) : m_X12_isOrder_62 (fun (x3_y26) (x4_y26) (σ_y26) => fm_g (fm_bz x3_y26) (some (x3_y26, σ_y26))) fuel (nI 0) (nI z) σ = some (nI 0, σ) := by
  obtain ⟨n, rfl⟩ : ∃ n, fuel = n + 1 := ⟨fuel - 1, by omega⟩
  rw [m_X12_isOrder_62]
  simp only [nu_lit]
  rw [if_pos trivial, nu_bz0, nu_g]
  by_cases y : nI z ≤ nI 0
  · rw [if_pos y]
  · rw [if_neg y]
theorem em_io62 : ∀ (n fuel z : Nat) (σ : fm_M) (c : Nat → Nat), n + 1 < fuel → dgs n z → z < 2 ^ 20 → (∀ d, 1 ≤ d → d < 5 → σ.1 101 d = nI (c d) ∧ c d < 2 ^ 20) → ∃ σ', m_X12_isOrder_62 (fun (x3_y26) (x4_y26) (σ_y26) => fm_g (fm_bz x3_y26) (some (x3_y26, σ_y26))) fuel (nI 1) (nI z) σ = some (nI (if okF n c z then 1 else 0), σ') ∧ fEq s101 σ σ' := by
  intro n
  induction n with
  | zero =>
    intro fuel z σ c hf hz hb h
    obtain ⟨m, rfl⟩ : ∃ m, fuel = m + 1 := ⟨fuel - 1, by omega⟩
    have e : z = 0 := hz
    subst e
    refine ⟨σ, ?_, fEq.rf⟩
    rw [m_X12_isOrder_62]
    simp only [nu_lit]
    rw [if_pos (by decide), nu_bz1, nu_g, okF]
    rfl
  | succ n ih =>
    intro fuel z σ c hf hz hb h
    obtain ⟨m, rfl⟩ : ∃ m, fuel = m + 1 := ⟨fuel - 1, by omega⟩
    have hz0 := hz.1
    rw [okF, m_X12_isOrder_62]
    simp only [nu_lit, nu_j]
    rw [if_neg (by rw [nu_le (by omega) (by omega)]; omega), if_neg nI10, nu_rem (by omega) (by decide) (by decide), nu_div (by omega) (by decide) (by decide), em_in1]
    by_cases v : 1 ≤ z % 10 ∧ z % 10 ≤ 4
    · have hd := h (z % 10) v.1 (by omega)
      rw [if_pos ⟨by rw [nu_le (by omega) (by omega)]; exact v.1, by rw [nu_le (by omega) (by omega)]; exact v.2⟩, nu_b, if_neg nI10, nu_in (by omega) (by decide), nu_g, nu_cl (n := z % 10) (by omega), hd.1]
      by_cases p : 0 < c (z % 10)
      · obtain ⟨σ', w1, w2⟩ := ih m (z / 10) (fm_sI σ 101 (z % 10) (nI (c (z % 10) - 1))) (fun d => if d = z % 10 then c d - 1 else c d) (by omega) hz.2 (by omega) (fun d h1 h2 => by
          by_cases y : d = z % 10
          · rw [nu_sI, if_pos ⟨rfl, y⟩, if_pos y, y]; exact ⟨rfl, by omega⟩
          · rw [nu_sI, if_neg (fun q => y q.2), if_neg y]; exact h d h1 h2)
        have f1 : fEq s101 σ (fm_sI σ 101 (z % 10) (nI (c (z % 10) - 1))) := fEq.set rfl
        refine ⟨σ', ?_, fEq.tr f1 w2 (fun _ _ q => q) (fun _ _ q => q)⟩
        rw [if_neg (by rw [nu_le (by omega) (by omega)]; omega), if_neg nI10, nu_g, nu_g, nu_let, nu_sub (by omega), w1, if_pos (show 1 ≤ z % 10 ∧ z % 10 ≤ 4 ∧ 0 < c (z % 10) from ⟨v.1, v.2, p⟩)]
      · have f1 : fEq s101 σ (fm_sI σ 101 0 (σ.1 101 0 - nI 1)) := fEq.set rfl
        refine ⟨fm_sI σ 101 0 (σ.1 101 0 - nI 1), ?_, f1⟩
        rw [if_pos (by rw [nu_le (by omega) (by omega)]; omega), if_pos trivial, nu_in (by decide) (by decide), nu_g, nu_g, nu_let, nu_cl (n := 0) (by omega), em_io0 (by omega), if_neg (show ¬ (1 ≤ z % 10 ∧ z % 10 ≤ 4 ∧ 0 < c (z % 10)) from fun q => p q.2.2)]
        first | done | rfl
    · have f1 : fEq s101 σ (fm_sI σ 101 0 (σ.1 101 0 - nI 1)) := fEq.set rfl
      refine ⟨fm_sI σ 101 0 (σ.1 101 0 - nI 1), ?_, f1⟩
      rw [if_neg (fun q => v ⟨by have := q.1; rw [nu_le (by omega) (by omega)] at this; exact this, by have := q.2; rw [nu_le (by omega) (by omega)] at this; exact this⟩), nu_b, if_pos rfl, if_pos trivial, nu_in (by decide) (by decide), nu_g, nu_g, nu_let, nu_cl (n := 0) (by omega), em_io0 (by omega), if_neg (show ¬ (1 ≤ z % 10 ∧ z % 10 ≤ 4 ∧ 0 < c (z % 10)) from fun q => v ⟨q.1, q.2.1⟩)]
      first | done | rfl
