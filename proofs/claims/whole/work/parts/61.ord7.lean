def s101 : Nat → Nat → Prop := fun a _ => a = 101
theorem em_io2 (kc : Int32 → Int32 → Int32 → fm_M → Option (Int32 × fm_M)) {z1 z2 : Int32} : ∀ (m fuel i : Nat) (σ : fm_M), m < fuel → i + m = 5 → (∀ d, d < i → σ.1 101 d = nI 0) → ∃ σ', m_X12_isOrder_2 kc fuel z1 z2 (nI i) σ = kc z1 z2 (nI 5) σ' ∧ (∀ d, d < 5 → σ'.1 101 d = nI 0) ∧ fEq s101 σ σ' := by
  intro m
  induction m with
  | zero =>
    intro fuel i σ hf hi h
    obtain ⟨n, rfl⟩ : ∃ n, fuel = n + 1 := ⟨fuel - 1, by omega⟩
    refine ⟨σ, ?_, fun d hd => h d (by omega), fEq.rf⟩
    rw [m_X12_isOrder_2]
    simp only [nu_lit]
    rw [if_pos (by rw [nu_le (by omega) (by omega)]; omega), show i = 5 by omega]
  | succ m ih =>
    intro fuel i σ hf hi h
    obtain ⟨n, rfl⟩ : ∃ n, fuel = n + 1 := ⟨fuel - 1, by omega⟩
    obtain ⟨σ', v1, v2, v3⟩ := ih n (i + 1) (fm_sI σ 101 i (nI 0)) (by omega) (by omega) (fun d hd => by
      by_cases z : d = i
      · rw [nu_sI, if_pos ⟨rfl, z⟩]
      · rw [nu_sI, if_neg (fun y => z y.2)]; exact h d (by omega))
    have f1 : fEq s101 σ (fm_sI σ 101 i (nI 0)) := fEq.set rfl
    refine ⟨σ', ?_, v2, fEq.tr f1 v3 (fun _ _ z => z) (fun _ _ z => z)⟩
    rw [m_X12_isOrder_2]
    simp only [nu_lit, nI_add]
    rw [if_neg (by rw [nu_le (by omega) (by omega)]; omega), nu_in (by omega) (by decide), nu_g, nu_let, nu_cl (by omega)]
    exact v1
def ct (p : Nat → Nat) : Nat → Nat → Nat
  | 0, _ => 0
  | n + 1, d => ct p n d + (if p n + 1 = d then 1 else 0)
theorem em_io22 (kc : Int32 → Int32 → Int32 → fm_M → Option (Int32 × fm_M)) {g L : Nat} {x : Nat → Nat} {z2 : Int32} (hg : g < 8) (hL : L ≤ 5) (h0 : x 0 = L) (hr : rOk x) : ∀ (m fuel i : Nat) (σ : fm_M), m < fuel → i + m = L → mRec σ 97 g x → (∀ d, d < 5 → σ.1 101 d = nI (ct (fun k => x (4 + k)) i d)) → ∃ σ', m_X12_isOrder_22 kc fuel (nI g) z2 (nI i) σ = kc (nI g) z2 (nI L) σ' ∧ (∀ d, d < 5 → σ'.1 101 d = nI (ct (fun k => x (4 + k)) L d)) ∧ fEq s101 σ σ' := by
  intro m
  induction m with
  | zero =>
    intro fuel i σ hf hi hx h
    obtain ⟨n, rfl⟩ : ∃ n, fuel = n + 1 := ⟨fuel - 1, by omega⟩
    have e : i = L := by omega
    subst e
    refine ⟨σ, ?_, h, fEq.rf⟩
    rw [m_X12_isOrder_22]
    simp only [nu_lit]
    rw [em_of1 _ (by omega), nu_b, hx 0 (by omega), h0, if_pos (by rw [nu_le (by omega) (by omega)]; omega)]
  | succ m ih =>
    intro fuel i σ hf hi hx h
    obtain ⟨n, rfl⟩ : ∃ n, fuel = n + 1 := ⟨fuel - 1, by omega⟩
    have p4 := hr.2.2.2 i (by omega)
    have f1 : fEq s101 σ (fm_sI σ 101 (1 + x (4 + i)) (nI (ct (fun k => x (4 + k)) i (1 + x (4 + i)) + 1))) := fEq.set rfl
    obtain ⟨σ', v1, v2, v3⟩ := ih n (i + 1) (fm_sI σ 101 (1 + x (4 + i)) (nI (ct (fun k => x (4 + k)) i (1 + x (4 + i)) + 1))) (by omega) (by omega) (fun f hf => by rw [f1.1 _ _ (by unfold s101; omega)]; exact hx f hf) (fun d hd => by
      rw [ct]
      by_cases z : d = 1 + x (4 + i)
      · rw [nu_sI, if_pos ⟨rfl, z⟩, if_pos (by omega), z]
      · rw [nu_sI, if_neg (fun y => z y.2), if_neg (by omega), Nat.add_zero]; exact h d hd)
    refine ⟨σ', ?_, v2, fEq.tr f1 v3 (fun _ _ z => z) (fun _ _ z => z)⟩
    rw [m_X12_isOrder_22]
    simp only [nu_lit, nI_add]
    rw [em_of1 _ (by omega), nu_b, hx 0 (by omega), h0, if_neg (by rw [nu_le (by omega) (by omega)]; omega), em_of1 _ (by omega), nu_b, hx (4 + i) (by omega), nI_add, nu_in (by omega) (by decide), nu_g, nu_g, nu_cl (by omega), h _ (by omega), nI_add, nu_let]
    exact v1
