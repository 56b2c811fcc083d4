theorem dg_lt : ∀ (n u k : Nat), dg n u k < 4
  | 0, _, _ => by rw [dg]; decide
  | n + 1, u, k => by
    rw [dg]
    split
    · omega
    · exact dg_lt n (u / 4) k
theorem dg_cdr {r : Nat → Nat} : ∀ (n k : Nat), (∀ i, i < n → r i < 4) → k < n → dg n (cdr r n) k = r k
  | 0, k, _, h => by omega
  | n + 1, k, h, hk => by
    have hn := h n (by omega)
    rw [dg, cdr]
    by_cases z : k = n
    · subst z; rw [if_pos rfl]; omega
    · rw [if_neg z, show (4 * cdr r n + r n) / 4 = cdr r n by omega]
      exact dg_cdr n k (fun i hi => h i (by omega)) (by omega)
theorem cdr_lt {r : Nat → Nat} : ∀ n, (∀ i, i < n → r i < 4) → cdr r n < 4 ^ n
  | 0, _ => by rw [cdr]; decide
  | n + 1, h => by
    have h1 := cdr_lt n (fun i hi => h i (by omega))
    have h2 := h n (by omega)
    rw [cdr, Nat.pow_succ]; omega
/-- the class's row -/
def rowR (σ : fm_M) (L : Nat) (r : Nat → Nat) : Prop := ∀ k, k < L → σ.1 95 k = nI (r k) ∧ r k < 4
def s95 : Nat → Nat → Prop := fun a _ => a = 95
theorem ex_swap {σ : fm_M} {L i j : Nat} {r : Nat → Nat} (hL : L ≤ 6) (h : rowR σ L r) (hi : i < L) (hj : j < L) : ∃ σ', m_X11_swapInRow (nI i) (nI j) σ = some ((), σ') ∧ rowR σ' L (swp r i j) ∧ fEq s95 σ σ' := by
  unfold m_X11_swapInRow
  rw [nu_in (by omega) (by decide), nu_g, nu_in (by omega) (by decide), nu_g, nu_g, nu_cl (by omega), nu_cl (by omega), nu_let, nu_g, nu_let]
  refine ⟨_, rfl, fun k hk => ?_, fEq.tr (S := s95) (fEq.set (S := s95) rfl) (fEq.set (S := s95) rfl) (fun _ _ z => z) (fun _ _ z => z)⟩
  unfold swp
  by_cases z : k = j
  · rw [nu_sI, if_pos ⟨rfl, z⟩, if_pos z]; exact h i hi
  · rw [nu_sI, if_neg (fun y => z y.2), if_neg z]
    by_cases z2 : k = i
    · rw [nu_sI, if_pos ⟨rfl, z2⟩, if_pos z2]; exact h j hj
    · rw [nu_sI, if_neg (fun y => z2 y.2), if_neg z2]; exact h k hk
theorem ex_next4 (kc : Int32 → Int32 → fm_M → Option (Int32 × fm_M)) {σ : fm_M} {L : Nat} {r : Nat → Nat} (hL : L ≤ 5) (h : rowR σ L r) : ∀ (k fuel : Nat), k < fuel → k < L → m_X11_nextRow_4 kc fuel (nI L) (zi k) σ = kc (nI L) (zi (fi r k)) σ := by
  intro k
  induction k with
  | zero =>
    intro fuel hf hk
    obtain ⟨n, rfl⟩ : ∃ n, fuel = n + 1 := ⟨fuel - 1, by omega⟩
    rw [m_X11_nextRow_4, show zi 0 = -nI 1 from rfl, if_pos (by decide), fi]
    rfl
  | succ k ih =>
    intro fuel hf hk
    obtain ⟨n, rfl⟩ : ∃ n, fuel = n + 1 := ⟨fuel - 1, by omega⟩
    have h1 := h k (by omega)
    have h2 := h (k + 1) hk
    rw [m_X11_nextRow_4, show zi (k + 1) = nI k from rfl]
    simp only [nu_lit, nI_add]
    rw [if_neg (by rw [nu_lt (by omega) (by omega)]; omega), nu_in (by omega) (by decide), nu_g, nu_in (by omega) (by decide), nu_g, nu_cl (by omega), nu_cl (by omega), h1.1, h2.1, fi, zi_next]
    by_cases z : r k < r (k + 1)
    · rw [if_pos (by rw [nu_lt (by omega) (by omega)]; exact z), if_pos z]
      rfl
    · rw [if_neg (by rw [nu_lt (by omega) (by omega)]; exact z), if_neg z]
      exact ih n (by omega) (by omega)
theorem ex_next41 (kc : Int32 → Int32 → Int32 → fm_M → Option (Int32 × fm_M)) {σ : fm_M} {L i : Nat} {r : Nat → Nat} (hL : L ≤ 5) (h : rowR σ L r) (hi : i < L) : ∀ (k fuel : Nat), k < fuel → k < L → m_X11_nextRow_41 kc fuel (nI L) (nI i) (nI k) σ = kc (nI L) (nI i) (nI (fj r i k)) σ := by
  intro k
  induction k with
  | zero =>
    intro fuel hf hk
    obtain ⟨n, rfl⟩ : ∃ n, fuel = n + 1 := ⟨fuel - 1, by omega⟩
    rw [m_X11_nextRow_41, if_pos (by rw [nu_le (by omega) (by omega)]; omega), fj]
  | succ k ih =>
    intro fuel hf hk
    obtain ⟨n, rfl⟩ : ∃ n, fuel = n + 1 := ⟨fuel - 1, by omega⟩
    have h1 := h i hi
    have h2 := h (k + 1) hk
    rw [m_X11_nextRow_41, fj]
    simp only [nu_lit]
    by_cases y : k + 1 ≤ i
    · rw [if_pos (by rw [nu_le (by omega) (by omega)]; exact y), if_pos y]
    · rw [if_neg (by rw [nu_le (by omega) (by omega)]; exact y), if_neg y, nu_in (by omega) (by decide), nu_g, nu_in (by omega) (by decide), nu_g, nu_cl (by omega), nu_cl (by omega), h1.1, h2.1, show nI (k + 1) + -nI 1 = nI k from nu_ng k]
      by_cases z : r i < r (k + 1)
      · rw [if_pos (by rw [nu_lt (by omega) (by omega)]; exact z), if_pos z]
      · rw [if_neg (by rw [nu_lt (by omega) (by omega)]; exact z), if_neg z]
        exact ih n (by omega) (by omega)
theorem fj_lt {r : Nat → Nat} {i : Nat} : ∀ k, fj r i k ≤ k
  | 0 => by rw [fj]; exact Nat.le_refl _
  | k + 1 => by
    rw [fj]
    split
    · exact Nat.le_refl _
    · split
      · exact Nat.le_refl _
      · have := fj_lt (r := r) (i := i) k; omega
theorem fi_le {r : Nat → Nat} : ∀ k, fi r k ≤ k
  | 0 => by rw [fi]; exact Nat.le_refl _
  | k + 1 => by
    rw [fi]
    split
    · exact Nat.le_refl _
    · have := fi_le (r := r) k; omega
theorem ex_next83 {L : Nat} (hL : L ≤ 5) : ∀ (m fuel a b : Nat) (r : Nat → Nat) (σ : fm_M), m < fuel → b ≤ a + m → b < L → a ≤ L → rowR σ L r → ∃ σ', m_X11_nextRow_83 (fun (x4_y13) (x5_y13) (σ_y13) => some ((nI 1), σ_y13)) fuel (nI a) (nI b) σ = some (nI 1, σ') ∧ rowR σ' L (rv m r a b) ∧ fEq s95 σ σ' := by
  intro m
  induction m with
  | zero =>
    intro fuel a b r σ hf hab hb ha h
    obtain ⟨n, rfl⟩ : ∃ n, fuel = n + 1 := ⟨fuel - 1, by omega⟩
    refine ⟨σ, ?_, h, fEq.rf⟩
    rw [m_X11_nextRow_83, if_pos (by rw [nu_le (by omega) (by omega)]; omega)]
  | succ m ih =>
    intro fuel a b r σ hf hab hb ha h
    obtain ⟨n, rfl⟩ : ∃ n, fuel = n + 1 := ⟨fuel - 1, by omega⟩
    rw [rv]
    by_cases z : b ≤ a
    · rw [if_pos z]
      refine ⟨σ, ?_, h, fEq.rf⟩
      rw [m_X11_nextRow_83, if_pos (by rw [nu_le (by omega) (by omega)]; exact z)]
    · rw [if_neg z]
      obtain ⟨σ1, u1, u2, u3⟩ := ex_swap (by omega) h (show a < L by omega) hb
      obtain ⟨σ', v1, v2, v3⟩ := ih n (a + 1) (b - 1) (swp r a b) σ1 (by omega) (by omega) (by omega) (by omega) u2
      refine ⟨σ', ?_, v2, fEq.tr u3 v3 (fun _ _ z => z) (fun _ _ z => z)⟩
      rw [m_X11_nextRow_83, if_neg (by rw [nu_le (by omega) (by omega)]; exact z), u1, nu_b]
      simp only [nu_lit, nI_add]
      rw [show nI b + -nI 1 = nI (b - 1) from by obtain ⟨b', rfl⟩ : ∃ b', b = b' + 1 := ⟨b - 1, by omega⟩; exact nu_ng b']
      exact v1
theorem L_2 {L : Nat} (h1 : 1 ≤ L) (h5 : L ≤ 5) : nI L - nI 2 = zi (L - 1) := by
  have : L = 1 ∨ L = 2 ∨ L = 3 ∨ L = 4 ∨ L = 5 := by omega
  rcases this with rfl | rfl | rfl | rfl | rfl <;> decide
theorem ex_nextNo {σ : fm_M} {L : Nat} {r : Nat → Nat} (h1 : 1 ≤ L) (hL : L ≤ 5) (h : rowR σ L r) (h0 : fi r (L - 1) = 0) : m_X11_nextRow (nI L) σ = some (nI 0, σ) := by
  unfold m_X11_nextRow
  simp only [nu_lit]
  rw [L_2 h1 hL, ex_next4 _ hL h (L - 1) fm_fu (by have := nu_fu; omega) (by omega), h0, if_neg (by decide)]
theorem ex_nextYes {σ : fm_M} {L : Nat} {r : Nat → Nat} (h1 : 1 ≤ L) (hL : L ≤ 5) (h : rowR σ L r) (h0 : ¬ fi r (L - 1) = 0) : ∃ σ', m_X11_nextRow (nI L) σ = some (nI 1, σ') ∧ rowR σ' L (nxR L r) ∧ fEq s95 σ σ' := by
  have hfi := fi_le (r := r) (L - 1)
  have hfj := fj_lt (r := r) (i := fi r (L - 1) - 1) (L - 1)
  have ez : zi (fi r (L - 1)) = nI (fi r (L - 1) - 1) := by unfold zi; rw [if_neg h0]
  obtain ⟨σ1, u1, u2, u3⟩ := ex_swap (by omega) h (show fi r (L - 1) - 1 < L by omega) (show fj r (fi r (L - 1) - 1) (L - 1) < L by omega)
  obtain ⟨σ', v1, v2, v3⟩ := ex_next83 hL 4 fm_fu (fi r (L - 1)) (L - 1) _ σ1 (by have := nu_fu; omega) (by omega) (by omega) (by omega) u2
  refine ⟨σ', ?_, v2, fEq.tr u3 v3 (fun _ _ z => z) (fun _ _ z => z)⟩
  unfold m_X11_nextRow
  simp only [nu_lit]
  rw [L_2 h1 hL, ex_next4 _ hL h (L - 1) fm_fu (by have := nu_fu; omega) (by omega), ez, if_pos (by rw [nu_le (by omega) (by omega)]; omega), nu_sub h1, ex_next41 _ hL h (show fi r (L - 1) - 1 < L by omega) (L - 1) fm_fu (by have := nu_fu; omega) (by omega), u1, nu_b, nI_add, show fi r (L - 1) - 1 + 1 = fi r (L - 1) by omega, nu_sub h1]
  exact v1
theorem ex_ins (kc : Int32 → Int32 → Int32 → Int32 → fm_M → Option (Unit × fm_M)) {L : Nat} {z1 z2 z3 : Int32} (hL : L ≤ 5) : ∀ (j fuel : Nat) (r : Nat → Nat) (σ : fm_M), j < fuel → j < L → rowR σ L r → ∃ w σ', m_X11_startRow_29 kc fuel z1 z2 z3 (nI j) σ = kc z1 z2 z3 w σ' ∧ rowR σ' L (ins j r) ∧ fEq s95 σ σ' := by
  intro j
  induction j with
  | zero =>
    intro fuel r σ hf hj h
    obtain ⟨n, rfl⟩ : ∃ n, fuel = n + 1 := ⟨fuel - 1, by omega⟩
    refine ⟨nI 0, σ, ?_, h, fEq.rf⟩
    rw [m_X11_startRow_29]
    simp only [nu_lit]
    rw [if_pos (by decide)]
  | succ j ih =>
    intro fuel r σ hf hj h
    obtain ⟨n, rfl⟩ : ∃ n, fuel = n + 1 := ⟨fuel - 1, by omega⟩
    have h1 := h j (by omega)
    have h2 := h (j + 1) hj
    rw [ins]
    by_cases z : r j ≤ r (j + 1)
    · rw [if_pos z]
      refine ⟨nI (j + 1), σ, ?_, h, fEq.rf⟩
      rw [m_X11_startRow_29]
      simp only [nu_lit]
      rw [if_neg (by rw [nu_le (by omega) (by omega)]; omega), nu_sub (by omega), Nat.add_sub_cancel, nu_in (by omega) (by decide), nu_g, nu_in (by omega) (by decide), nu_g, nu_cl (by omega), nu_cl (by omega), h1.1, h2.1, if_pos (by rw [nu_le (by omega) (by omega)]; exact z)]
    · rw [if_neg z]
      obtain ⟨σ1, u1, u2, u3⟩ := ex_swap (by omega) h (show j < L by omega) hj
      obtain ⟨w, σ', v1, v2, v3⟩ := ih n (swp r j (j + 1)) σ1 (by omega) (by omega) u2
      refine ⟨w, σ', ?_, v2, fEq.tr u3 v3 (fun _ _ z => z) (fun _ _ z => z)⟩
      rw [m_X11_startRow_29]
      simp only [nu_lit]
      rw [if_neg (by rw [nu_le (by omega) (by omega)]; omega), nu_sub (by omega), Nat.add_sub_cancel, nu_in (by omega) (by decide), nu_g, nu_in (by omega) (by decide), nu_g, nu_cl (by omega), nu_cl (by omega), h1.1, h2.1, if_neg (by rw [nu_le (by omega) (by omega)]; exact z), u1, nu_b, show nI (j + 1) + -nI 1 = nI j from nu_ng j]
      exact v1
