/-! THE REFERENCE'S TRIAL -/
def mTr (σ τ : fm_M) : Prop := (∀ k, k < 96 → τ.1 99 k = σ.1 97 k) ∧ fEq (fun a k => a = 97 ∨ a = 99 ∨ (a = 96 ∧ k = 5)) σ τ
theorem em_start (σ : fm_M) : ∃ τ, m_X12_setsAside σ = some ((), τ) ∧ mTr σ τ ∧ ∀ k, τ.1 97 k = σ.1 97 k := by
  obtain ⟨τ, v1, v2, v3⟩ := em_setsAside σ
  exact ⟨τ, v1, ⟨v2, v3.mono (fun a k z => Or.inr (Or.inl z.1))⟩, fun k => v3.1 _ _ (by omega)⟩
theorem mTr.go {σ τ τ' : fm_M} {S : Nat → Nat → Prop} (h : mTr σ τ) (hf : fEq S τ τ') (hs : ∀ a k, S a k → a = 97 ∨ (a = 96 ∧ k = 5)) : mTr σ τ' := ⟨fun k hk => by rw [hf.1 _ _ (fun z => by have := hs _ _ z; omega)]; exact h.1 k hk, fEq.tr h.2 hf (fun _ _ z => z) (fun a k z => by have := hs _ _ z; omega)⟩
theorem em_end {σ τ : fm_M} (h : mTr σ τ) : ∃ τ', m_X12_laysBack τ = some ((), τ') ∧ fEq sM σ τ' := by
  obtain ⟨τ', v1, v2, v3⟩ := em_laysBack τ
  refine ⟨τ', v1, fun a k z => ?_, v3.2.trans h.2.2⟩
  by_cases e : a = 97
  · subst e
    have hk : k < 96 := by unfold sM at z; omega
    rw [v2 k hk, h.1 k hk]
  · rw [v3.1 _ _ (by omega), h.2.1 _ _ (by unfold sM at z; omega)]
theorem em_go {σ τ : fm_M} {dy np ng N : Nat} {kd jy : Nat → Nat} {pr : Nat → Nat → Nat} (hN : N < 2 ^ 10) (ho : tOk dy np ng kd jy pr) (hd : dy + N < 2 ^ 20) (ht : mTown τ 97 dy np ng kd jy pr) (h : mTr σ τ) : ∃ τ', m_X12_goes (nI N) τ = some ((), τ') ∧ mTown τ' 97 (tDays np ng kd N (dy, jy, pr)).1 np ng kd (tDays np ng kd N (dy, jy, pr)).2.1 (tDays np ng kd N (dy, jy, pr)).2.2 ∧ mTr σ τ' := by
  obtain ⟨τ', u1, u2, u3⟩ := em_goes (q := (dy, jy, pr)) hN ho hd ht
  exact ⟨τ', u1, u2, h.go u3 (fun a k z => z)⟩
theorem tDays_one {np ng i : Nat} {kd : Nat → Nat} {q : Nat × (Nat → Nat) × (Nat → Nat → Nat)} : tDays np ng kd 1 (tDays np ng kd i q) = tDays np ng kd (i + 1) q := (tDays_add i q).symm
-- sums
def sm (f : Nat → Nat) : Nat → Nat
  | 0 => 0
  | n + 1 => sm f n + f n
theorem sm_le {f : Nat → Nat} {c : Nat} : ∀ n, (∀ i, i < n → f i ≤ c) → sm f n ≤ n * c
  | 0, _ => Nat.zero_le _
  | n + 1, h => by
    have h1 := sm_le n (fun i hi => h i (by omega))
    have h2 := h n (by omega)
    rw [sm, Nat.succ_mul]; omega
theorem sm_cong {f g : Nat → Nat} : ∀ n, (∀ i, i < n → f i = g i) → sm f n = sm g n
  | 0, _ => rfl
  | n + 1, h => by rw [sm, sm, sm_cong n (fun i hi => h i (by omega)), h n (by omega)]
theorem ex_joyLoop (kc : Nat → Int32 → Int32 → fm_M → Option (Int32 × fm_M)) {σ : fm_M} {b dy np ng : Nat} {kd jy : Nat → Nat} {pr : Nat → Nat → Nat} (ho : tOk dy np ng kd jy pr) (ht : xTown σ b dy np ng kd jy pr) : ∀ (m fuel i : Nat), m < fuel → i + m = np → m_X10_joyOfAll_4 kc fuel b (nI (sm jy i)) (nI i) σ = kc b (nI (sm jy np)) (nI np) σ := by
  have o1 := ho.1
  intro m
  induction m with
  | zero =>
    intro fuel i hf hi
    obtain ⟨n, rfl⟩ : ∃ n, fuel = n + 1 := ⟨fuel - 1, by omega⟩
    have e : i = np := by omega
    subst e
    rw [m_X10_joyOfAll_4, ht.2.1, if_pos (by rw [nu_le (by omega) (by omega)]; omega)]
  | succ m ih =>
    intro fuel i hf hi
    obtain ⟨n, rfl⟩ : ∃ n, fuel = n + 1 := ⟨fuel - 1, by omega⟩
    rw [m_X10_joyOfAll_4, ht.2.1, if_neg (by rw [nu_le (by omega) (by omega)]; omega), nu_in (by omega) (by decide), nu_g, nu_cl (by omega), (ht.2.2.2.1 i (by omega)).2]
    simp only [nu_lit, nI_add]
    exact ih n (i + 1) (by omega) (by omega)
theorem ex_joyOfAll {σ : fm_M} {b dy np ng : Nat} {kd jy : Nat → Nat} {pr : Nat → Nat → Nat} (ho : tOk dy np ng kd jy pr) (ht : xTown σ b dy np ng kd jy pr) : m_X10_joyOfAll b σ = some (nI (sm jy np), σ) := by
  unfold m_X10_joyOfAll
  simp only [nu_lit]
  exact ex_joyLoop _ ho ht np fm_fu 0 (by have := nu_fu; have := ho.1; omega) (by omega)
theorem em_joyLoop (kc : Int32 → Int32 → fm_M → Option (Int32 × fm_M)) {σ : fm_M} {dy np ng : Nat} {kd jy : Nat → Nat} {pr : Nat → Nat → Nat} (ho : tOk dy np ng kd jy pr) (ht : mTown σ 97 dy np ng kd jy pr) : ∀ (m fuel i : Nat), m < fuel → i + m = np → m_X12_allJoy_4 kc fuel (nI (sm jy i)) (nI i) σ = kc (nI (sm jy np)) (nI np) σ := by
  have o1 := ho.1
  intro m
  induction m with
  | zero =>
    intro fuel i hf hi
    obtain ⟨n, rfl⟩ : ∃ n, fuel = n + 1 := ⟨fuel - 1, by omega⟩
    have e : i = np := by omega
    subst e
    rw [m_X12_allJoy_4]
    simp only [nu_lit]
    rw [nu_in (by decide) (by decide), nu_g, nu_cl (n := 1) (by omega), ht.2.1, if_pos (by rw [nu_le (by omega) (by omega)]; omega)]
  | succ m ih =>
    intro fuel i hf hi
    obtain ⟨n, rfl⟩ : ∃ n, fuel = n + 1 := ⟨fuel - 1, by omega⟩
    rw [m_X12_allJoy_4]
    simp only [nu_lit]
    rw [nu_in (by decide) (by decide), nu_g, nu_cl (n := 1) (by omega), ht.2.1, if_neg (by rw [nu_le (by omega) (by omega)]; omega), em_get _ (by omega), nu_b, show 4 + 2 * i + 1 = 5 + 2 * i by omega, (ht.2.2.2.1 i (by omega)).2]
    simp only [nI_add]
    exact ih n (i + 1) (by omega) (by omega)
theorem em_allJoy {σ : fm_M} {dy np ng : Nat} {kd jy : Nat → Nat} {pr : Nat → Nat → Nat} (ho : tOk dy np ng kd jy pr) (ht : mTown σ 97 dy np ng kd jy pr) : m_X12_allJoy σ = some (nI (sm jy np), σ) := by
  unfold m_X12_allJoy
  simp only [nu_lit]
  exact em_joyLoop _ ho ht np fm_fu 0 (by have := nu_fu; have := ho.1; omega) (by omega)
theorem ex_layersLoop (kc : Nat → Int32 → Int32 → fm_M → Option (Int32 × fm_M)) {σ : fm_M} {b dy np ng : Nat} {kd jy : Nat → Nat} {pr : Nat → Nat → Nat} (ho : tOk dy np ng kd jy pr) (ht : xTown σ b dy np ng kd jy pr) : ∀ (m fuel i : Nat), m < fuel → i + m = ng → m_X10_layersOfAll_4 kc fuel b (nI (sm (fun g => pr g 0) i)) (nI i) σ = kc b (nI (sm (fun g => pr g 0) ng)) (nI ng) σ := by
  have o1 := ho.2.1
  intro m
  induction m with
  | zero =>
    intro fuel i hf hi
    obtain ⟨n, rfl⟩ : ∃ n, fuel = n + 1 := ⟨fuel - 1, by omega⟩
    have e : i = ng := by omega
    subst e
    rw [m_X10_layersOfAll_4, ht.2.2.1, if_pos (by rw [nu_le (by omega) (by omega)]; omega)]
  | succ m ih =>
    intro fuel i hf hi
    obtain ⟨n, rfl⟩ : ∃ n, fuel = n + 1 := ⟨fuel - 1, by omega⟩
    rw [m_X10_layersOfAll_4, ht.2.2.1, if_neg (by rw [nu_le (by omega) (by omega)]; omega), nu_in (by omega) (by decide), nu_g, nu_cl (by omega), (ht.2.2.2.2 i (by omega)).n]
    simp only [nu_lit, nI_add]
    exact ih n (i + 1) (by omega) (by omega)
theorem ex_layersOfAll {σ : fm_M} {b dy np ng : Nat} {kd jy : Nat → Nat} {pr : Nat → Nat → Nat} (ho : tOk dy np ng kd jy pr) (ht : xTown σ b dy np ng kd jy pr) : m_X10_layersOfAll b σ = some (nI (sm (fun g => pr g 0) ng), σ) := by
  unfold m_X10_layersOfAll
  simp only [nu_lit]
  exact ex_layersLoop _ ho ht ng fm_fu 0 (by have := nu_fu; have := ho.2.1; omega) (by omega)
def tFd (pr : Nat → Nat → Nat) (g : Nat) : Nat := if pr g 3 = 1 then pr g 1 else 0
theorem ex_thingsLoop (kc : Nat → Int32 → Int32 → fm_M → Option (Int32 × fm_M)) {σ : fm_M} {b dy np ng : Nat} {kd jy : Nat → Nat} {pr : Nat → Nat → Nat} (ho : tOk dy np ng kd jy pr) (ht : xTown σ b dy np ng kd jy pr) : ∀ (m fuel i : Nat), m < fuel → i + m = ng → m_X10_thingsFound_4 kc fuel b (nI (sm (tFd pr) i)) (nI i) σ = kc b (nI (sm (tFd pr) ng)) (nI ng) σ := by
  have o1 := ho.2.1
  intro m
  induction m with
  | zero =>
    intro fuel i hf hi
    obtain ⟨n, rfl⟩ : ∃ n, fuel = n + 1 := ⟨fuel - 1, by omega⟩
    have e : i = ng := by omega
    subst e
    rw [m_X10_thingsFound_4, ht.2.2.1, if_pos (by rw [nu_le (by omega) (by omega)]; omega)]
  | succ m ih =>
    intro fuel i hf hi
    obtain ⟨n, rfl⟩ : ∃ n, fuel = n + 1 := ⟨fuel - 1, by omega⟩
    have h3 := (ho.2.2.2.2 i (by omega)).1.2.2.1
    have x3 : σ.1 (b + 9 + 2 * i) 4 = nI (pr i 3) := (ht.2.2.2.2 i (by omega)).1 3 (by omega)
    have x1 : σ.1 (b + 9 + 2 * i) 2 = nI (pr i 1) := (ht.2.2.2.2 i (by omega)).1 1 (by omega)
    have hsm : sm (tFd pr) (i + 1) = sm (tFd pr) i + tFd pr i := rfl
    rw [m_X10_thingsFound_4, ht.2.2.1, if_neg (by rw [nu_le (by omega) (by omega)]; omega), nu_in (by omega) (by decide), nu_g, nu_cl (by omega), x3, x1, nu_g]
    simp only [nu_lit, nI_add]
    have := ih n (i + 1) (by omega) (by omega)
    by_cases z : pr i 3 = 1
    · rw [if_neg (by rw [nu_eq (by omega) (by decide)]; omega)]
      rw [hsm, tFd, if_pos z] at this; exact this
    · rw [if_pos (by rw [nu_eq (by omega) (by decide)]; omega)]
      rw [hsm, tFd, if_neg z] at this; exact this
theorem ex_thingsFound {σ : fm_M} {b dy np ng : Nat} {kd jy : Nat → Nat} {pr : Nat → Nat → Nat} (ho : tOk dy np ng kd jy pr) (ht : xTown σ b dy np ng kd jy pr) : m_X10_thingsFound b σ = some (nI (sm (tFd pr) ng), σ) := by
  unfold m_X10_thingsFound
  simp only [nu_lit]
  exact ex_thingsLoop _ ho ht ng fm_fu 0 (by have := nu_fu; have := ho.2.1; omega) (by omega)
theorem em_layersLoop (kc : Int32 → Int32 → Int32 → Int32 → fm_M → Option (Int32 × fm_M)) {σ : fm_M} {dy np ng : Nat} {kd jy : Nat → Nat} {pr : Nat → Nat → Nat} (ho : tOk dy np ng kd jy pr) (ht : mTown σ 97 dy np ng kd jy pr) : ∀ (m fuel i : Nat), m < fuel → i + m = ng → m_X12_allOf_5 kc fuel (nI 0) (nI 0) (nI (sm (fun g => pr g 0) i)) (nI i) σ = kc (nI 0) (nI 0) (nI (sm (fun g => pr g 0) ng)) (nI ng) σ := by
  have o1 := ho.2.1
  intro m
  induction m with
  | zero =>
    intro fuel i hf hi
    obtain ⟨n, rfl⟩ : ∃ n, fuel = n + 1 := ⟨fuel - 1, by omega⟩
    have e : i = ng := by omega
    subst e
    rw [m_X12_allOf_5]
    simp only [nu_lit]
    rw [nu_in (by decide) (by decide), nu_g, nu_cl (n := 2) (by omega), ht.2.2.1, if_pos (by rw [nu_le (by omega) (by omega)]; omega)]
  | succ m ih =>
    intro fuel i hf hi
    obtain ⟨n, rfl⟩ : ∃ n, fuel = n + 1 := ⟨fuel - 1, by omega⟩
    rw [m_X12_allOf_5]
    simp only [nu_lit]
    rw [nu_in (by decide) (by decide), nu_g, nu_cl (n := 2) (by omega), ht.2.2.1, if_neg (by rw [nu_le (by omega) (by omega)]; omega), if_pos trivial, em_of1 _ (by omega), nu_b, ht.2.2.2.2 i (by omega) 0 (by omega)]
    simp only [nI_add]
    exact ih n (i + 1) (by omega) (by omega)
theorem em_thingsLoop (kc : Int32 → Int32 → Int32 → Int32 → fm_M → Option (Int32 × fm_M)) {σ : fm_M} {dy np ng : Nat} {kd jy : Nat → Nat} {pr : Nat → Nat → Nat} (ho : tOk dy np ng kd jy pr) (ht : mTown σ 97 dy np ng kd jy pr) : ∀ (m fuel i : Nat), m < fuel → i + m = ng → m_X12_allOf_5 kc fuel (nI 1) (nI 1) (nI (sm (tFd pr) i)) (nI i) σ = kc (nI 1) (nI 1) (nI (sm (tFd pr) ng)) (nI ng) σ := by
  have o1 := ho.2.1
  intro m
  induction m with
  | zero =>
    intro fuel i hf hi
    obtain ⟨n, rfl⟩ : ∃ n, fuel = n + 1 := ⟨fuel - 1, by omega⟩
    have e : i = ng := by omega
    subst e
    rw [m_X12_allOf_5]
    simp only [nu_lit]
    rw [nu_in (by decide) (by decide), nu_g, nu_cl (n := 2) (by omega), ht.2.2.1, if_pos (by rw [nu_le (by omega) (by omega)]; omega)]
  | succ m ih =>
    intro fuel i hf hi
    obtain ⟨n, rfl⟩ : ∃ n, fuel = n + 1 := ⟨fuel - 1, by omega⟩
    have h3 := (ho.2.2.2.2 i (by omega)).1.2.2.1
    have hsm : sm (tFd pr) (i + 1) = sm (tFd pr) i + tFd pr i := rfl
    rw [m_X12_allOf_5]
    simp only [nu_lit]
    rw [nu_in (by decide) (by decide), nu_g, nu_cl (n := 2) (by omega), ht.2.2.1, if_neg (by rw [nu_le (by omega) (by omega)]; omega), if_neg nI10, em_of1 _ (by omega), nu_b, ht.2.2.2.2 i (by omega) 3 (by omega)]
    have := ih n (i + 1) (by omega) (by omega)
    by_cases z : pr i 3 = 1
    · rw [if_pos (by rw [z]), em_of1 _ (by omega), nu_b, ht.2.2.2.2 i (by omega) 1 (by omega)]
      rw [hsm, tFd, if_pos z] at this
      simp only [nI_add]; exact this
    · rw [if_neg (by rw [nu_eq (by omega) (by decide)]; exact z)]
      rw [hsm, tFd, if_neg z] at this
      simp only [nI_add]; exact this
theorem op_now (v : Int32) {σ : fm_M} (h : Inv σ) : opS (m_X11_now v) (m_X12_now v) σ := by
  obtain ⟨hR, dy, np, ng, kd, jy, pr, k1, k2, k3, k4⟩ := id h
  have o2 := k1.2.1
  rcases nu_ix v (n := 5) (by decide) with ⟨w, hw, rfl⟩ | hv
  · have hw4 : w = 0 ∨ w = 1 ∨ w = 2 ∨ w = 3 ∨ w = 4 := by omega
    rcases hw4 with rfl | rfl | rfl | rfl | rfl
    · refine stp_ask (nI dy) h ?_ ?_
      · unfold m_X11_now
        simp only [nu_lit]
        rw [if_pos trivial, k3.1]
      · unfold m_X12_now
        simp only [nu_lit]
        rw [if_pos trivial, nu_in (by decide) (by decide), nu_g, nu_cl (n := 0) (by omega), k4.1]
    · refine stp_ask (nI (sm jy np)) h ?_ ?_
      · unfold m_X11_now
        simp only [nu_lit]
        rw [if_neg (by decide), if_pos trivial, ex_joyOfAll k1 k3, nu_b]
      · unfold m_X12_now
        simp only [nu_lit]
        rw [if_neg (by decide), if_pos trivial, em_allJoy k1 k4, nu_b]
    · refine stp_ask (nI (bset (fun i => decide (pr i 3 = 1)) ng)) h ?_ ?_
      · unfold m_X11_now
        simp only [nu_lit]
        rw [if_neg (by decide), if_neg (by decide), if_pos trivial, ex_opened k1 k3, nu_b]
      · unfold m_X12_now
        simp only [nu_lit]
        rw [if_neg (by decide), if_neg (by decide), if_pos trivial, em_foundOnes k1 k4, nu_b]
    · refine stp_ask (nI (sm (fun g => pr g 0) ng)) h ?_ ?_
      · unfold m_X11_now
        simp only [nu_lit]
        rw [if_neg (by decide), if_neg (by decide), if_neg (by decide), if_pos trivial, ex_layersOfAll k1 k3, nu_b]
      · have e : m_X12_allOf (nI 0) (nI 0) σ = some (nI (sm (fun g => pr g 0) ng), σ) := by
          unfold m_X12_allOf
          simp only [nu_lit]
          exact em_layersLoop _ k1 k4 ng fm_fu 0 (by have := nu_fu; omega) (by omega)
        unfold m_X12_now
        simp only [nu_lit]
        rw [if_neg (by decide), if_neg (by decide), if_neg (by decide), if_pos trivial, e, nu_b]
    · refine stp_ask (nI (sm (tFd pr) ng)) h ?_ ?_
      · unfold m_X11_now
        simp only [nu_lit]
        rw [if_neg (by decide), if_neg (by decide), if_neg (by decide), if_neg (by decide), if_pos trivial, ex_thingsFound k1 k3, nu_b]
      · have e : m_X12_allOf (nI 1) (nI 1) σ = some (nI (sm (tFd pr) ng), σ) := by
          unfold m_X12_allOf
          simp only [nu_lit]
          exact em_thingsLoop _ k1 k4 ng fm_fu 0 (by have := nu_fu; omega) (by omega)
        unfold m_X12_now
        simp only [nu_lit]
        rw [if_neg (by decide), if_neg (by decide), if_neg (by decide), if_neg (by decide), if_pos trivial, e, nu_b]
  · have n0 := not_small hv (show 0 < 5 by decide) (by decide)
    have n1 := not_small hv (show 1 < 5 by decide) (by decide)
    have n2 := not_small hv (show 2 < 5 by decide) (by decide)
    have n3 := not_small hv (show 3 < 5 by decide) (by decide)
    have n4 := not_small hv (show 4 < 5 by decide) (by decide)
    refine stp_find 0 (by decide) h ?_ (fun σ1 hs => ?_)
    · unfold m_X11_now
      simp only [nu_lit, fnd0]
      rw [if_neg n0, if_neg n1, if_neg n2, if_neg n3, if_neg n4]
    · unfold m_X12_now
      simp only [nu_lit]
      rw [if_neg n0, if_neg n1, if_neg n2, if_neg n3, if_neg n4]
theorem sTT_18 : ∀ a k, sTown a k → sTT a k ∨ (a = 96 ∧ k = 5) := fun a k z => z.elim (fun y => Or.inl (Or.inr y)) Or.inr
theorem op_days (x : Int32) {σ : fm_M} (h : Inv σ) : opS (m_X11_days x) (m_X12_days x) σ := by
  obtain ⟨hR, dy, np, ng, kd, jy, pr, k1, k2, k3, k4⟩ := id h
  have o1 := k1.1
  have o2 := k1.2.1
  rcases nu_ix1 x (n := 60) (by decide) with ⟨jx, gx, hx, rfl⟩ | hx
  · by_cases z : dy + jx ≤ 9999
    · have tk := (tDays_ok (kd := kd) jx (dy, jy, pr) k1 (by dsimp only; omega))
      obtain ⟨σ1, a1, a2, a3⟩ := ex_goOn (q := (dy, jy, pr)) (N := jx) (by omega) k1 (by dsimp only; omega) k3
      have m1 : mTown σ1 97 dy np ng kd jy pr := k4.keep (fun k => a3.1 _ _ (fun y => by have := y.2; omega))
      obtain ⟨σ2, b1, b2, b3⟩ := em_goes (q := (dy, jy, pr)) (N := jx) (by omega) k1 (by dsimp only; omega) m1
      refine ⟨nI (unf ng (tDays np ng kd jx (dy, jy, pr)).2.2), σ1, σ2, ?_, ?_, ?_⟩
      · unfold m_X11_days
        simp only [nu_lit]
        rw [ex_wT (by omega) (by omega) (by decide), nu_b, if_neg nI10, k3.1, nI_add, if_pos (by rw [nu_le (by omega) (by decide)]; exact z), a1, nu_b, ex_unopened tk.1 a2, nu_b]
      · unfold m_X12_days
        simp only [nu_lit]
        rw [em_in1T _ (by omega) (by omega) (by decide), nu_b, if_neg nI10, nu_in (by decide) (by decide), nu_g, nu_cl (n := 0) (by omega), m1.1, nI_add, if_pos (by rw [nu_le (by omega) (by decide)]; exact z), b1, nu_b, nu_in (by decide) (by decide), nu_g, em_foundOnes tk.1 b2, nu_b, nu_cl (n := 2) (by omega), b2.2.2.1, bt_msk ng o2 _ (bset_lt _ _ o2)]
        rfl
      · refine inv_of hR (S := fun a k => sTT a k ∨ (a = 96 ∧ k = 5)) (fEq.tr a3 b3 (fun a k y => Or.inl (sB_T a k y)) sTT_18) (fun a k y1 y2 => ?_) tk.1 ?_ (a2.keep tk.1 (fun a k i1 i2 => b3.1 _ _ (by unfold sTown; omega))) b2
        · unfold sR at y1; unfold sTT at y2; omega
        · rw [tk.2]; exact z
    · refine stp_find 4 (by decide) h ?_ (fun σ1 hs => ?_)
      · unfold m_X11_days
        simp only [nu_lit, fnd4]
        rw [ex_wT (by omega) (by omega) (by decide), nu_b, if_neg nI10, k3.1, nI_add, if_neg (by rw [nu_le (by omega) (by decide)]; exact z)]
      · have m1 := k4.keep (fun k => hs 97 k (by omega))
        unfold m_X12_days
        simp only [nu_lit]
        rw [em_in1T _ (by omega) (by omega) (by decide), nu_b, if_neg nI10, nu_in (by decide) (by decide), nu_g, nu_cl (n := 0) (by omega), m1.1, nI_add, if_neg (by rw [nu_le (by omega) (by decide)]; exact z)]
  · refine stp_find 0 (by decide) h ?_ (fun σ1 hs => ?_)
    · unfold m_X11_days
      simp only [nu_lit, fnd0]
      rw [em_within, if_neg hx, nu_b, if_pos rfl]
    · have m1 := k4.keep (fun k => hs 97 k (by omega))
      unfold m_X12_days
      simp only [nu_lit]
      rw [em_in1, if_neg hx, nu_b, if_pos rfl]
theorem em_isAheadT {σ : fm_M} {j : Nat} (h : j < 61) : m_X12_isAhead (nI j) σ = some (nI 1, σ) := by
  unfold m_X12_isAhead
  simp only [nu_lit]
  rw [em_in1T _ (by omega) (by omega) (by decide), nu_b, nu_bz1, nu_g]
theorem em_isAheadF {σ : fm_M} {x : Int32} (h : x < 0 ∨ nI 61 ≤ x) : m_X12_isAhead x σ = some (nI 0, σ) := by
  unfold m_X12_isAhead
  simp only [nu_lit]
  rw [em_wF h (by decide), nu_b, nu_bz0, nu_g]
theorem em_isSoonT {σ : fm_M} {j : Nat} (h1 : 1 ≤ j) (h : j ≤ 30) : m_X12_isSoon (nI j) σ = some (nI 1, σ) := by
  unfold m_X12_isSoon
  simp only [nu_lit]
  rw [em_in1T _ (by omega) (by omega) (by decide), nu_b, nu_bz1, nu_g]
theorem em_isSoonF {σ : fm_M} {x : Int32} (h : ¬ (nI 1 ≤ x ∧ x ≤ nI 30)) : m_X12_isSoon x σ = some (nI 0, σ) := by
  unfold m_X12_isSoon
  simp only [nu_lit]
  rw [em_in1, if_neg h, nu_b, nu_bz0, nu_g]
theorem op_joyOn (x v : Int32) {σ : fm_M} (h : Inv σ) : opS (m_X11_joyOn x v) (m_X12_joyOn x v) σ := by
  obtain ⟨hR, dy, np, ng, kd, jy, pr, k1, k2, k3, k4⟩ := id h
  have o1 := k1.1
  have o2 := k1.2.1
  rcases nu_ix x (n := np) (by omega) with ⟨jx, hx, rfl⟩ | hx
  · rcases nu_ix v (n := 61) (by omega) with ⟨jv, hv, rfl⟩ | hv
    · have tk := (tDays_ok (kd := kd) jv (dy, jy, pr) k1 (by dsimp only; omega))
      obtain ⟨τ1, a1, a2, a3⟩ := ex_startTrial k1 k3
      obtain ⟨σ1, c1, c2, c3⟩ := ex_go58 (N := jv) (by omega) k1 (by omega) a2
      have m1 := k4.qX (qX.tr a3 c3)
      obtain ⟨τ2, d1, d2, d3⟩ := em_start σ1
      obtain ⟨τ3, e1, e2, e3⟩ := em_go (N := jv) (by omega) k1 (by omega) (m1.keep d3) d2
      obtain ⟨σ2, f1, f2⟩ := em_end e3
      refine stp_q (nI ((tDays np ng kd jv (dy, jy, pr)).2.1 jx)) h ?_ (qX.tr a3 c3) ?_ f2
      · unfold m_X11_joyOn
        simp only [nu_lit]
        rw [ex_isPersonT k3.2.1 o1 hx, nu_b, if_neg nI10, ex_wT (by omega) (by omega) (by decide), nu_b, if_neg nI10, a1, nu_b, c1, nu_b, nu_in (by omega) (by decide), nu_g, nu_cl (by omega), (c2.2.2.2.1 jx hx).2]
      · unfold m_X12_joyOn
        simp only [nu_lit]
        rw [em_isPersonT m1.2.1 o1 hx, nu_b, if_neg nI10, em_isAheadT hv, nu_b, if_neg nI10, d1, nu_b, e1, nu_b, em_get _ (by omega), nu_b, f1, nu_b, show 4 + 2 * jx + 1 = 5 + 2 * jx by omega, (e2.2.2.2.1 jx hx).2]
    · refine stp_find 0 (by decide) h ?_ (fun σ1 hs => ?_)
      · unfold m_X11_joyOn
        simp only [nu_lit, fnd0]
        rw [ex_isPersonT k3.2.1 o1 hx, nu_b, if_neg nI10, ex_wF hv (by decide), nu_b, if_pos rfl]
      · have m1 := k4.keep (fun k => hs 97 k (by omega))
        unfold m_X12_joyOn
        simp only [nu_lit]
        rw [em_isPersonT m1.2.1 o1 hx, nu_b, if_neg nI10, em_isAheadF hv, nu_b, if_pos rfl]
  · refine stp_find 0 (by decide) h ?_ (fun σ1 hs => ?_)
    · unfold m_X11_joyOn
      simp only [nu_lit, fnd0]
      rw [ex_isPersonF k3.2.1 o1 hx, nu_b, if_pos rfl]
    · have m1 := k4.keep (fun k => hs 97 k (by omega))
      unfold m_X12_joyOn
      simp only [nu_lit]
      rw [em_isPersonF m1.2.1 o1 hx, nu_b, if_pos rfl]
theorem op_on (x v w : Int32) {σ : fm_M} (h : Inv σ) : opS (m_X11_on x v w) (m_X12_on x v w) σ := by
  obtain ⟨hR, dy, np, ng, kd, jy, pr, k1, k2, k3, k4⟩ := id h
  have o1 := k1.1
  have o2 := k1.2.1
  rcases nu_ix x (n := ng) (by omega) with ⟨jx, hx, rfl⟩ | hx
  · rcases nu_ix v (n := 61) (by omega) with ⟨jv, hv, rfl⟩ | hv
    · rcases nu_ix w (n := 4) (by omega) with ⟨jw, hw, rfl⟩ | hw
      · by_cases z1 : jw = 1
        · refine stp_find 0 (by decide) h ?_ (fun σ1 hs => ?_)
          · unfold m_X11_on
            simp only [nu_lit, fnd0]
            rw [ex_isPresentT k3.2.2.1 o2 hx, nu_b, if_neg nI10, ex_wT (by omega) (by omega) (by decide), nu_b, if_neg nI10, ex_wT (by omega) (by omega) (by decide), nu_b, if_neg nI10, z1, if_pos rfl]
          · have m1 := k4.keep (fun k => hs 97 k (by omega))
            unfold m_X12_on
            simp only [nu_lit]
            rw [em_isPresentT m1.2.2.1 o2 hx, nu_b, if_neg nI10, em_isAheadT hv, nu_b, if_neg nI10, em_in1T _ (by omega) (by omega) (by decide), nu_b, if_neg nI10, z1, if_pos rfl]
        · have tk := (tDays_ok (kd := kd) jv (dy, jy, pr) k1 (by dsimp only; omega))
          obtain ⟨τ1, a1, a2, a3⟩ := ex_startTrial k1 k3
          obtain ⟨σ1, c1, c2, c3⟩ := ex_go58 (N := jv) (by omega) k1 (by omega) a2
          have m1 := k4.qX (qX.tr a3 c3)
          obtain ⟨τ2, d1, d2, d3⟩ := em_start σ1
          obtain ⟨τ3, e1, e2, e3⟩ := em_go (N := jv) (by omega) k1 (by omega) (m1.keep d3) d2
          obtain ⟨σ2, f1, f2⟩ := em_end e3
          have z2 : ¬ nI jw = nI 1 := by rw [nu_eq (by omega) (by decide)]; exact z1
          refine stp_q (nI ((tDays np ng kd jv (dy, jy, pr)).2.2 jx jw)) h ?_ (qX.tr a3 c3) ?_ f2
          · unfold m_X11_on
            simp only [nu_lit]
            rw [ex_isPresentT k3.2.2.1 o2 hx, nu_b, if_neg nI10, ex_wT (by omega) (by omega) (by decide), nu_b, if_neg nI10, ex_wT (by omega) (by omega) (by decide), nu_b, if_neg nI10, if_neg z2, a1, nu_b, c1, nu_b, nu_in (by omega) (by decide), nu_g, nu_cl (by omega), ex_tells (c2.2.2.2.2 jx hx) (tk.1.2.2.2.2 jx hx).1.2.2.1 hw, nu_b]
          · unfold m_X12_on
            simp only [nu_lit]
            rw [em_isPresentT m1.2.2.1 o2 hx, nu_b, if_neg nI10, em_isAheadT hv, nu_b, if_neg nI10, em_in1T _ (by omega) (by omega) (by decide), nu_b, if_neg nI10, if_neg z2, d1, nu_b, e1, nu_b, em_of1 _ (by omega), nu_b, f1, nu_b, e2.2.2.2.2 jx hx jw (by omega)]
      · refine stp_find 0 (by decide) h ?_ (fun σ1 hs => ?_)
        · unfold m_X11_on
          simp only [nu_lit, fnd0]
          rw [ex_isPresentT k3.2.2.1 o2 hx, nu_b, if_neg nI10, ex_wT (by omega) (by omega) (by decide), nu_b, if_neg nI10, ex_wF hw (by decide), nu_b, if_pos rfl]
        · have m1 := k4.keep (fun k => hs 97 k (by omega))
          unfold m_X12_on
          simp only [nu_lit]
          rw [em_isPresentT m1.2.2.1 o2 hx, nu_b, if_neg nI10, em_isAheadT hv, nu_b, if_neg nI10, em_wF hw (by decide), nu_b, if_pos rfl]
    · refine stp_find 0 (by decide) h ?_ (fun σ1 hs => ?_)
      · unfold m_X11_on
        simp only [nu_lit, fnd0]
        rw [ex_isPresentT k3.2.2.1 o2 hx, nu_b, if_neg nI10, ex_wF hv (by decide), nu_b, if_pos rfl]
      · have m1 := k4.keep (fun k => hs 97 k (by omega))
        unfold m_X12_on
        simp only [nu_lit]
        rw [em_isPresentT m1.2.2.1 o2 hx, nu_b, if_neg nI10, em_isAheadF hv, nu_b, if_pos rfl]
  · refine stp_find 0 (by decide) h ?_ (fun σ1 hs => ?_)
    · unfold m_X11_on
      simp only [nu_lit, fnd0]
      rw [ex_isPresentF k3.2.2.1 o2 hx, nu_b, if_pos rfl]
    · have m1 := k4.keep (fun k => hs 97 k (by omega))
      unfold m_X12_on
      simp only [nu_lit]
      rw [em_isPresentF m1.2.2.1 o2 hx, nu_b, if_pos rfl]
