/-! WHAT HOLDS BETWEEN THE CLASS AND THE REFERENCE, between two calls -/
def iK (σ : fm_M) : Prop := σ.1 96 3 = σ.1 0 3 ∧ (σ.1 0 3 = nI 0 ∨ (σ.1 0 3 = nI 1 ∧ ∃ (dy np ng : Nat) (kd jy : Nat → Nat) (pr : Nat → Nat → Nat), tOk dy np ng kd jy pr ∧ dy ≤ 9999 ∧ xTown σ 33 dy np ng kd jy pr ∧ mTown σ 98 dy np ng kd jy pr))
def iT (σ : fm_M) : Prop := ∃ n, n ≤ 120 ∧ σ.1 92 1 = nI n ∧ σ.1 96 8 = nI n ∧ ∀ i, i < n → σ.1 102 i = σ.1 93 i ∧ ∃ v, v < 256 ∧ σ.1 93 i = nI v
def iS (σ : fm_M) : Prop := ∀ s, s < 4 → σ.1 106 s = σ.1 (84 + 2 * s) 1 ∧ (σ.1 (84 + 2 * s) 1 = nI 0 ∨ σ.1 (84 + 2 * s) 1 = nI 8 ∨ σ.1 (84 + 2 * s) 1 = nI 16 ∨ σ.1 (84 + 2 * s) 1 = nI 64) ∧ ∃ n, n ≤ 40 ∧ σ.1 (84 + 2 * s) 2 = nI n ∧ σ.1 107 s = nI n ∧ (σ.1 (84 + 2 * s) 1 = nI 0 → n = 0) ∧ ∀ i, i < 40 → σ.2 108 (40 * s + i) = σ.2 (85 + 2 * s) i
def iF (σ : fm_M) : Prop := ∀ k, k < 7 → σ.1 100 k = σ.1 94 k
def txL : List Int32 := [109, 97, 110, 32, 32, 32, 32, 32, 97, 117, 110, 116, 32, 32, 32, 32, 99, 104, 105, 108, 100, 32, 32, 32, 112, 111, 111, 114, 32, 32, 32, 32, 103, 105, 114, 108, 32, 32, 32, 32, 99, 108, 101, 114, 107, 32, 32, 32]
def txO : List Int32 := [112, 114, 101, 115, 101, 110, 116, 32, 116, 104, 105, 110, 103, 32, 32, 32]
def txP : List Int32 := [110, 101, 119, 115, 32, 32, 32, 32, 98, 114, 111, 119, 110, 32, 32, 32, 116, 105, 115, 115, 117, 101, 32, 32, 109, 97, 114, 98, 108, 101, 100, 32]
def iC (σ : fm_M) : Prop := (∀ k, k < 48 → σ.1 103 k = txL.getD k 0) ∧ (∀ k, k < 16 → σ.1 104 k = txO.getD k 0) ∧ ∀ k, k < 32 → σ.1 105 k = txP.getD k 0
def iR (σ : fm_M) : Prop := iK σ ∧ iT σ ∧ iS σ ∧ iF σ ∧ iC σ
def Inv (σ : fm_M) : Prop := iR σ ∧ ∃ (dy np ng : Nat) (kd jy : Nat → Nat) (pr : Nat → Nat → Nat), tOk dy np ng kd jy pr ∧ dy ≤ 9999 ∧ xTown σ 8 dy np ng kd jy pr ∧ mTown σ 97 dy np ng kd jy pr
theorem mTown.keep {σ σ' : fm_M} {c dy np ng : Nat} {kd jy : Nat → Nat} {pr : Nat → Nat → Nat} (h : mTown σ c dy np ng kd jy pr) (hf : ∀ k, σ'.1 c k = σ.1 c k) : mTown σ' c dy np ng kd jy pr := ⟨by rw [hf]; exact h.1, by rw [hf]; exact h.2.1, by rw [hf]; exact h.2.2.1, fun k hk => ⟨by rw [hf]; exact (h.2.2.2.1 k hk).1, by rw [hf]; exact (h.2.2.2.1 k hk).2⟩, fun g hg f hf2 => by rw [hf]; exact h.2.2.2.2 g hg f hf2⟩
theorem xTown.keep {σ σ' : fm_M} {b dy np ng : Nat} {kd jy : Nat → Nat} {pr : Nat → Nat → Nat} (h : xTown σ b dy np ng kd jy pr) (ho : tOk dy np ng kd jy pr) (hf : ∀ a k, b ≤ a → a < b + 25 → σ'.1 a k = σ.1 a k) : xTown σ' b dy np ng kd jy pr := by
  obtain ⟨o1, o2, -⟩ := ho
  exact ⟨by rw [hf _ _ (by omega) (by omega)]; exact h.1, by rw [hf _ _ (by omega) (by omega)]; exact h.2.1, by rw [hf _ _ (by omega) (by omega)]; exact h.2.2.1, fun k hk => ⟨by rw [hf _ _ (by omega) (by omega)]; exact (h.2.2.2.1 k hk).1, by rw [hf _ _ (by omega) (by omega)]; exact (h.2.2.2.1 k hk).2⟩, fun g hg => (h.2.2.2.2 g hg).out (fun k => hf _ _ (by omega) (by omega)) (fun k => hf _ _ (by omega) (by omega))⟩
theorem iK.keep {σ σ' : fm_M} (h : iK σ) (h0 : ∀ k, σ'.1 0 k = σ.1 0 k) (h1 : ∀ a k, 33 ≤ a → a < 58 → σ'.1 a k = σ.1 a k) (h2 : σ'.1 96 3 = σ.1 96 3) (h3 : ∀ k, σ'.1 98 k = σ.1 98 k) : iK σ' := by
  refine ⟨by rw [h2, h0]; exact h.1, ?_⟩
  rcases h.2 with z | ⟨z, dy, np, ng, kd, jy, pr, k1, k2, k3, k4⟩
  · exact Or.inl (by rw [h0]; exact z)
  · exact Or.inr ⟨by rw [h0]; exact z, dy, np, ng, kd, jy, pr, k1, k2, k3.keep k1 (fun a k i1 i2 => h1 a k i1 (by omega)), k4.keep h3⟩
theorem iT.keep {σ σ' : fm_M} (h : iT σ) (h0 : σ'.1 92 1 = σ.1 92 1) (h1 : ∀ k, σ'.1 93 k = σ.1 93 k) (h2 : σ'.1 96 8 = σ.1 96 8) (h3 : ∀ k, σ'.1 102 k = σ.1 102 k) : iT σ' := by
  obtain ⟨n, n1, n2, n3, n4⟩ := h
  exact ⟨n, n1, by rw [h0]; exact n2, by rw [h2]; exact n3, fun i hi => by rw [h3, h1]; exact n4 i hi⟩
theorem iS.keep {σ σ' : fm_M} (h : iS σ) (h0 : ∀ a k, 84 ≤ a → a < 92 → σ'.1 a k = σ.1 a k) (h1 : ∀ k, σ'.1 106 k = σ.1 106 k) (h2 : ∀ k, σ'.1 107 k = σ.1 107 k) (h3 : σ'.2 = σ.2) : iS σ' := by
  intro s hs
  obtain ⟨a1, a2, n, a3, a4, a5, a6, a7⟩ := h s hs
  rw [h1, h0 _ _ (by omega) (by omega), h0 _ _ (by omega) (by omega), h2, h3]
  exact ⟨a1, a2, n, a3, a4, a5, a6, a7⟩
/-- what the rest rests on -/
def sR : Nat → Nat → Prop := fun a k => a = 0 ∨ (33 ≤ a ∧ a < 58) ∨ (84 ≤ a ∧ a < 92) ∨ (a = 92 ∧ k = 1) ∨ a = 93 ∨ a = 94 ∨ (a = 96 ∧ (k = 3 ∨ k = 8)) ∨ a = 98 ∨ a = 100 ∨ (102 ≤ a ∧ a ≤ 108)
theorem iR.keep {σ σ' : fm_M} {S : Nat → Nat → Prop} (h : iR σ) (hf : fEq S σ σ') (hd : ∀ a k, sR a k → ¬ S a k) : iR σ' := by
  obtain ⟨h1, h2, h3, h4, h5⟩ := h
  have e : ∀ a k, sR a k → σ'.1 a k = σ.1 a k := fun a k z => hf.1 a k (hd a k z)
  refine ⟨h1.keep (fun k => e _ _ (by simp [sR])) (fun a k i1 i2 => e _ _ (Or.inr (Or.inl ⟨i1, i2⟩))) (e _ _ (by simp [sR])) (fun k => e _ _ (by simp [sR])), h2.keep (e _ _ (by simp [sR])) (fun k => e _ _ (by simp [sR])) (e _ _ (by simp [sR])) (fun k => e _ _ (by simp [sR])), h3.keep (fun a k i1 i2 => e _ _ (Or.inr (Or.inr (Or.inl ⟨i1, i2⟩)))) (fun k => e _ _ (by simp [sR])) (fun k => e _ _ (by simp [sR])) hf.2, fun k hk => ?_, fun k hk => ?_, fun k hk => ?_, fun k hk => ?_⟩
  · rw [e _ _ (by simp [sR]), e _ _ (by simp [sR])]; exact h4 k hk
  · rw [e _ _ (by simp [sR])]; exact h5.1 k hk
  · rw [e _ _ (by simp [sR])]; exact h5.2.1 k hk
  · rw [e _ _ (by simp [sR])]; exact h5.2.2 k hk
/-- one call on both -/
def opS (fX fM : fm_M → Option (Int32 × fm_M)) (σ : fm_M) : Prop := ∃ (r : Int32) (σ1 σ2 : fm_M), fX σ = some (r, σ1) ∧ fM σ1 = some (r, σ2) ∧ Inv σ2
/-- the reference's cells are as they were -/
def eM (σ σ1 : fm_M) : Prop := ∀ a k, 96 ≤ a → σ1.1 a k = σ.1 a k
def fnd (F : Nat) : Int32 := -nI 1000000001 - nI F
theorem em_within (x a b : Int32) (σ : fm_M) : m_X11_within x a b σ = some (if a ≤ x ∧ x ≤ b then nI 1 else nI 0, σ) := em_in1 x a b σ
theorem ex_tell {F : Nat} (σ : fm_M) (hF : F < 7) : m_X11_tell (fnd F) σ = some (fnd F, fm_sI σ 94 F (σ.1 94 F + nI 1)) := by
  have e : -nI 1000000001 - fnd F = nI F := by
    have h : ∀ F, F < 7 → -nI 1000000001 - fnd F = nI F := by decide +kernel
    exact h F hF
  unfold m_X11_tell
  simp only [nu_lit]
  rw [e, em_within, if_pos ⟨by rw [nu_le (by decide) (by omega)]; omega, by rw [nu_le (by omega) (by decide)]; omega⟩, nu_b, if_neg (show ¬ nI 1 = nI 0 by decide), nu_in hF (by decide), nu_g, nu_g, nu_let, nu_cl (by omega)]
theorem em_no {F : Nat} (σ : fm_M) (hF : F < 7) : m_X12_no (nI F) σ = some (fnd F, fm_sI σ 100 F (σ.1 100 F + nI 1)) := by
  unfold m_X12_no
  simp only [nu_lit]
  rw [nu_in hF (by decide), nu_g, nu_g, nu_let, nu_cl (by omega)]
  rfl
theorem fnd0 : -nI 1000000001 = fnd 0 := by decide
theorem fnd1 : -nI 1000000002 = fnd 1 := by decide
theorem fnd2 : -nI 1000000003 = fnd 2 := by decide
theorem fnd3 : -nI 1000000004 = fnd 3 := by decide
theorem fnd4 : -nI 1000000005 = fnd 4 := by decide
theorem fnd5 : -nI 1000000006 = fnd 5 := by decide
theorem fnd6 : -nI 1000000007 = fnd 6 := by decide
theorem stp_find {fX fM : fm_M → Option (Int32 × fm_M)} {σ : fm_M} (F : Nat) (hF : F < 7) (h : Inv σ) (hX : fX σ = fm_b (m_X11_tell (fnd F) σ) fun r s => some (r, s)) (hM : ∀ σ1, eM σ σ1 → fM σ1 = fm_b (m_X12_no (nI F) σ1) fun r s => some (r, s)) : opS fX fM σ := by
  have hs : eM σ (fm_sI σ 94 F (σ.1 94 F + nI 1)) := fun a k ha => by rw [nu_sI, if_neg (by omega)]
  refine ⟨fnd F, fm_sI σ 94 F (σ.1 94 F + nI 1), fm_sI (fm_sI σ 94 F (σ.1 94 F + nI 1)) 100 F ((fm_sI σ 94 F (σ.1 94 F + nI 1)).1 100 F + nI 1), ?_, ?_, ?_⟩
  · rw [hX, ex_tell σ hF, nu_b]
  · rw [hM _ hs, em_no _ hF, nu_b]
  · obtain ⟨⟨h1, h2, h3, h4, h5⟩, dy, np, ng, kd, jy, pr, k1, k2, k3, k4⟩ := h
    have e : ∀ a k, a ≠ 94 → a ≠ 100 → (fm_sI (fm_sI σ 94 F (σ.1 94 F + nI 1)) 100 F ((fm_sI σ 94 F (σ.1 94 F + nI 1)).1 100 F + nI 1)).1 a k = σ.1 a k := fun a k i1 i2 => by rw [nu_sI, if_neg (by omega), nu_sI, if_neg (by omega)]
    refine ⟨⟨h1.keep (fun k => e _ _ (by omega) (by omega)) (fun a k i1 i2 => e _ _ (by omega) (by omega)) (e _ _ (by omega) (by omega)) (fun k => e _ _ (by omega) (by omega)), h2.keep (e _ _ (by omega) (by omega)) (fun k => e _ _ (by omega) (by omega)) (e _ _ (by omega) (by omega)) (fun k => e _ _ (by omega) (by omega)), h3.keep (fun a k i1 i2 => e _ _ (by omega) (by omega)) (fun k => e _ _ (by omega) (by omega)) (fun k => e _ _ (by omega) (by omega)) rfl, fun k hk => ?_, fun k hk => by rw [e _ _ (by omega) (by omega)]; exact h5.1 k hk, fun k hk => by rw [e _ _ (by omega) (by omega)]; exact h5.2.1 k hk, fun k hk => by rw [e _ _ (by omega) (by omega)]; exact h5.2.2 k hk⟩, dy, np, ng, kd, jy, pr, k1, k2, k3.keep k1 (fun a k i1 i2 => e _ _ (by omega) (by omega)), k4.keep (fun k => e _ _ (by omega) (by omega))⟩
    by_cases z : k = F
    · subst z
      rw [nu_sI, if_pos ⟨rfl, rfl⟩, nu_sI, if_neg (by omega), nu_sI, if_neg (by omega), nu_sI, if_pos ⟨rfl, rfl⟩, h4 k hk]
    · rw [nu_sI, if_neg (by omega), nu_sI, if_neg (by omega), nu_sI, if_neg (by omega), nu_sI, if_neg (by omega)]
      exact h4 k hk
/-- a call that only asks -/
theorem stp_ask {fX fM : fm_M → Option (Int32 × fm_M)} {σ : fm_M} (r : Int32) (h : Inv σ) (hX : fX σ = some (r, σ)) (hM : fM σ = some (r, σ)) : opS fX fM σ := ⟨r, σ, σ, hX, hM, h⟩
-- looking at an argument
theorem in_T {j a b : Nat} (h1 : a ≤ j) (h2 : j ≤ b) (hb : b < 2 ^ 30) : nI a ≤ nI j ∧ nI j ≤ nI b := ⟨by rw [nu_le (by omega) (by omega)]; exact h1, by rw [nu_le (by omega) (by omega)]; exact h2⟩
theorem in_F {x : Int32} {n : Nat} (h : x < 0 ∨ nI (n + 1) ≤ x) (hn : n < 2 ^ 29) : ¬ (nI 0 ≤ x ∧ x ≤ nI n) := by
  rintro ⟨h1, h2⟩
  rcases h with h | h
  · exact absurd h (Int32.not_lt.mpr h1)
  · have := Int32.le_trans h h2
    rw [nu_le (by omega) (by omega)] at this
    omega
theorem in_F0 {x : Int32} {n : Nat} (h : x < 0 ∨ nI n ≤ x) (hn : n < 2 ^ 29) : ¬ (nI 0 ≤ x ∧ x ≤ nI n - nI 1) := by
  cases n with
  | zero =>
    rintro ⟨h1, h2⟩
    have := Int32.le_trans h1 h2
    exact absurd this (by decide)
  | succ n =>
    rw [nu_sub (by omega), Nat.add_sub_cancel]
    exact in_F h (by omega)
theorem ex_isPersonT {σ : fm_M} {np j : Nat} (hn : σ.1 8 4 = nI np) (hp : np ≤ 6) (hj : j < np) : m_X11_isPerson (nI j) σ = some (nI 1, σ) := by
  unfold m_X11_isPerson
  simp only [nu_lit]
  rw [em_within, hn, nu_sub (by omega), if_pos (in_T (by omega) (by omega) (by omega)), nu_b, nu_bz1, nu_g]
theorem ex_isPersonF {σ : fm_M} {np : Nat} {x : Int32} (hn : σ.1 8 4 = nI np) (hp : np ≤ 6) (hx : x < 0 ∨ nI np ≤ x) : m_X11_isPerson x σ = some (nI 0, σ) := by
  unfold m_X11_isPerson
  simp only [nu_lit]
  rw [em_within, hn, if_neg (in_F0 hx (by omega)), nu_b, nu_bz0, nu_g]
theorem ex_isPresentT {σ : fm_M} {ng j : Nat} (hn : σ.1 8 5 = nI ng) (hp : ng ≤ 8) (hj : j < ng) : m_X11_isPresent (nI j) σ = some (nI 1, σ) := by
  unfold m_X11_isPresent
  simp only [nu_lit]
  rw [em_within, hn, nu_sub (by omega), if_pos (in_T (by omega) (by omega) (by omega)), nu_b, nu_bz1, nu_g]
theorem ex_isPresentF {σ : fm_M} {ng : Nat} {x : Int32} (hn : σ.1 8 5 = nI ng) (hp : ng ≤ 8) (hx : x < 0 ∨ nI ng ≤ x) : m_X11_isPresent x σ = some (nI 0, σ) := by
  unfold m_X11_isPresent
  simp only [nu_lit]
  rw [em_within, hn, if_neg (in_F0 hx (by omega)), nu_b, nu_bz0, nu_g]
theorem em_isPersonT {σ : fm_M} {np j : Nat} (hn : σ.1 97 1 = nI np) (hp : np ≤ 6) (hj : j < np) : m_X12_isPerson (nI j) σ = some (nI 1, σ) := by
  unfold m_X12_isPerson
  simp only [nu_lit]
  rw [nu_in (by decide) (by decide), nu_g, em_in1, nu_cl (n := 1) (by omega), hn, nu_sub (by omega), if_pos (in_T (by omega) (by omega) (by omega)), nu_b, nu_bz1, nu_g]
theorem em_isPersonF {σ : fm_M} {np : Nat} {x : Int32} (hn : σ.1 97 1 = nI np) (hp : np ≤ 6) (hx : x < 0 ∨ nI np ≤ x) : m_X12_isPerson x σ = some (nI 0, σ) := by
  unfold m_X12_isPerson
  simp only [nu_lit]
  rw [nu_in (by decide) (by decide), nu_g, em_in1, nu_cl (n := 1) (by omega), hn, if_neg (in_F0 hx (by omega)), nu_b, nu_bz0, nu_g]
theorem em_isPresentT {σ : fm_M} {ng j : Nat} (hn : σ.1 97 2 = nI ng) (hp : ng ≤ 8) (hj : j < ng) : m_X12_isPresent (nI j) σ = some (nI 1, σ) := by
  unfold m_X12_isPresent
  simp only [nu_lit]
  rw [nu_in (by decide) (by decide), nu_g, em_in1, nu_cl (n := 2) (by omega), hn, nu_sub (by omega), if_pos (in_T (by omega) (by omega) (by omega)), nu_b, nu_bz1, nu_g]
theorem em_isPresentF {σ : fm_M} {ng : Nat} {x : Int32} (hn : σ.1 97 2 = nI ng) (hp : ng ≤ 8) (hx : x < 0 ∨ nI ng ≤ x) : m_X12_isPresent x σ = some (nI 0, σ) := by
  unfold m_X12_isPresent
  simp only [nu_lit]
  rw [nu_in (by decide) (by decide), nu_g, em_in1, nu_cl (n := 2) (by omega), hn, if_neg (in_F0 hx (by omega)), nu_b, nu_bz0, nu_g]
/-- a bound that is written -/
theorem ex_wT {σ : fm_M} {j a b : Nat} (h1 : a ≤ j) (h2 : j ≤ b) (hb : b < 2 ^ 30) : m_X11_within (nI j) (nI a) (nI b) σ = some (nI 1, σ) := by rw [em_within, if_pos (in_T h1 h2 hb)]
theorem ex_wF {σ : fm_M} {x : Int32} {n : Nat} (h : x < 0 ∨ nI (n + 1) ≤ x) (hn : n < 2 ^ 29) : m_X11_within x (nI 0) (nI n) σ = some (nI 0, σ) := by rw [em_within, if_neg (in_F h hn)]
theorem em_wF {σ : fm_M} {x : Int32} {n : Nat} (h : x < 0 ∨ nI (n + 1) ≤ x) (hn : n < 2 ^ 29) : m_X12_in1 x (nI 0) (nI n) σ = some (nI 0, σ) := by rw [em_in1, if_neg (in_F h hn)]
theorem ex_isKindT {σ : fm_M} {j : Nat} (h : j < 6) : m_X11_isKind (nI j) σ = some (nI 1, σ) := by
  unfold m_X11_isKind
  simp only [nu_lit]
  rw [ex_wT (by omega) (by omega) (by decide), nu_b, nu_bz1, nu_g]
theorem ex_isKindF {σ : fm_M} {x : Int32} (h : x < 0 ∨ nI 6 ≤ x) : m_X11_isKind x σ = some (nI 0, σ) := by
  unfold m_X11_isKind
  simp only [nu_lit]
  rw [ex_wF h (by decide), nu_b, nu_bz0, nu_g]
theorem ex_isThingT {σ : fm_M} {j : Nat} (h : j < 100) : m_X11_isThing (nI j) σ = some (nI 1, σ) := by
  unfold m_X11_isThing
  simp only [nu_lit]
  rw [ex_wT (by omega) (by omega) (by decide), nu_b, nu_bz1, nu_g]
theorem ex_isThingF {σ : fm_M} {x : Int32} (h : x < 0 ∨ nI 100 ≤ x) : m_X11_isThing x σ = some (nI 0, σ) := by
  unfold m_X11_isThing
  simp only [nu_lit]
  rw [ex_wF h (by decide), nu_b, nu_bz0, nu_g]
theorem nI10 : ¬ nI 1 = nI 0 := by decide
