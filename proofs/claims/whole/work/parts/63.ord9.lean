theorem ct_sum {p : Nat → Nat} : ∀ n, (∀ k, k < n → p k < 4) → ct p n 1 + ct p n 2 + ct p n 3 + ct p n 4 = n
  | 0, _ => rfl
  | n + 1, h => by
    have h1 := ct_sum n (fun k hk => h k (by omega))
    have h2 := h n (by omega)
    have : p n = 0 ∨ p n = 1 ∨ p n = 2 ∨ p n = 3 := by omega
    simp only [ct]
    rcases this with z | z | z | z <;> simp [z] <;> omega
theorem ct_pkc {p : Nat → Nat} : ∀ n, (∀ k, k < n → p k < 4) → pkc (ct p n) = sg n (cdr p n)
  | 0, _ => rfl
  | n + 1, h => by
    have h1 := ct_pkc n (fun k hk => h k (by omega))
    have h2 := h n (by omega)
    rw [sg, cdr, show (4 * cdr p n + p n) / 4 = cdr p n by omega, show (4 * cdr p n + p n) % 4 = p n by omega, ← h1]
    have : p n = 0 ∨ p n = 1 ∨ p n = 2 ∨ p n = 3 := by omega
    unfold pkc
    simp only [ct]
    rcases this with z | z | z | z <;> simp [z] <;> omega
theorem ct_le {p : Nat → Nat} {d : Nat} : ∀ n, ct p n d ≤ n
  | 0 => Nat.le_refl _
  | n + 1 => by
    have := ct_le (p := p) (d := d) n
    rw [ct]
    split <;> omega
theorem em_isOrder {σ : fm_M} {g L z : Nat} {x : Nat → Nat} (hg : g < 8) (hL : L ≤ 5) (h0 : x 0 = L) (hr : rOk x) (hx : mRec σ 97 g x) (hz : dgs L z) (hb : z < 2 ^ 20) : ∃ σ', m_X12_isOrder (nI g) (nI z) σ = some (nI (if (vd L z && decide (sg L (cz L z) = sg L (cdr (fun k => x (4 + k)) L))) then 1 else 0), σ') ∧ fEq s101 σ σ' := by
  have hp : ∀ k, k < L → (fun k => x (4 + k)) k < 4 := fun k hk => hr.2.2.2 k (by omega)
  unfold m_X12_isOrder
  simp only [nu_lit]
  obtain ⟨σ1, a1, a2, a3⟩ := em_io2 (fun (x1_y4) (x2_y4) (x3_y4) (σ_y4) => m_X12_isOrder_22 (fun (x1_y15) (x2_y15) (x3_y15) (σ_y15) => m_X12_isOrder_62 (fun (x3_y26) (x4_y26) (σ_y26) => fm_g (fm_bz x3_y26) (some (x3_y26, σ_y26))) fm_fu (nI 1) x2_y15 σ_y15) fm_fu x1_y4 x2_y4 (nI 0) σ_y4) (z1 := nI g) (z2 := nI z) 5 fm_fu 0 σ (by have := nu_fu; omega) (by omega) (fun d hd => by omega)
  obtain ⟨σ2, b1, b2, b3⟩ := em_io22 (fun (x1_y15) (x2_y15) (x3_y15) (σ_y15) => m_X12_isOrder_62 (fun (x3_y26) (x4_y26) (σ_y26) => fm_g (fm_bz x3_y26) (some (x3_y26, σ_y26))) fm_fu (nI 1) x2_y15 σ_y15) (z2 := nI z) hg hL h0 hr L fm_fu 0 σ1 (by have := nu_fu; omega) (by omega) (fun f hf => by rw [a3.1 _ _ (by unfold s101; omega)]; exact hx f hf) a2
  obtain ⟨σ', c1, c2⟩ := em_io62 L fm_fu z σ2 (ct (fun k => x (4 + k)) L) (by have := nu_fu; omega) hz hb (fun d h1 h2 => ⟨b2 d h2, by have := ct_le (p := fun k => x (4 + k)) (d := d) L; omega⟩)
  refine ⟨σ', ?_, fEq.tr (fEq.tr (S := s101) a3 b3 (fun _ _ q => q) (fun _ _ q => q)) c2 (fun _ _ q => q) (fun _ _ q => q)⟩
  rw [a1, b1, c1, okF_sg L _ z hL (ct_sum L hp) hz, ct_pkc L hp]
