/-! WHAT A TRIAL TOUCHES -/
def sX : Nat → Nat → Prop := fun a k => (58 ≤ a ∧ a < 83) ∨ a = 95 ∨ (a = 92 ∧ 2 ≤ k)
def sM : Nat → Nat → Prop := fun a k => (a = 97 ∧ 96 ≤ k) ∨ a = 99 ∨ a = 101 ∨ (a = 96 ∧ (k = 5 ∨ (9 ≤ k)))
def sQ : Nat → Nat → Prop := fun a k => sX a k ∨ sM a k ∨ a = 94 ∨ a = 100
theorem mTown.k96 {σ σ' : fm_M} {c dy np ng : Nat} {kd jy : Nat → Nat} {pr : Nat → Nat → Nat} (h : mTown σ c dy np ng kd jy pr) (ho : tOk dy np ng kd jy pr) (hf : ∀ k, k < 96 → σ'.1 c k = σ.1 c k) : mTown σ' c dy np ng kd jy pr := by
  obtain ⟨o1, o2, -, -, o5⟩ := ho
  exact ⟨by rw [hf _ (by omega)]; exact h.1, by rw [hf _ (by omega)]; exact h.2.1, by rw [hf _ (by omega)]; exact h.2.2.1, fun k hk => ⟨by rw [hf _ (by omega)]; exact (h.2.2.2.1 k hk).1, by rw [hf _ (by omega)]; exact (h.2.2.2.1 k hk).2⟩, fun g hg f hf2 => by
    have := (o5 g hg).1.1
    rw [hf _ (by omega)]; exact h.2.2.2.2 g hg f hf2⟩
theorem mTown.q {σ σ' : fm_M} {dy np ng : Nat} {kd jy : Nat → Nat} {pr : Nat → Nat → Nat} (h : mTown σ 97 dy np ng kd jy pr) (ho : tOk dy np ng kd jy pr) (hf : fEq sM σ σ') : mTown σ' 97 dy np ng kd jy pr := h.k96 ho (fun k hk => hf.1 _ _ (by unfold sM; omega))
theorem xTown.q {σ σ' : fm_M} {dy np ng : Nat} {kd jy : Nat → Nat} {pr : Nat → Nat → Nat} (h : xTown σ 8 dy np ng kd jy pr) (ho : tOk dy np ng kd jy pr) (hf : fEq sX σ σ') : xTown σ' 8 dy np ng kd jy pr := h.keep ho (fun a k i1 i2 => hf.1 _ _ (by unfold sX; omega))
theorem mTown.qX {σ σ' : fm_M} {dy np ng : Nat} {kd jy : Nat → Nat} {pr : Nat → Nat → Nat} (h : mTown σ 97 dy np ng kd jy pr) (hf : fEq sX σ σ') : mTown σ' 97 dy np ng kd jy pr := h.keep (fun k => hf.1 _ _ (by unfold sX; omega))
theorem qX.tr {σ σ1 σ2 : fm_M} (h1 : fEq sX σ σ1) (h2 : fEq sX σ1 σ2) : fEq sX σ σ2 := fEq.tr h1 h2 (fun _ _ z => z) (fun _ _ z => z)
theorem qM.tr {σ σ1 σ2 : fm_M} (h1 : fEq sM σ σ1) (h2 : fEq sM σ1 σ2) : fEq sM σ σ2 := fEq.tr h1 h2 (fun _ _ z => z) (fun _ _ z => z)
theorem inv_gen {σ σ2 : fm_M} (h : Inv σ) (hf : fEq sQ σ σ2) (hF : iF σ2) : Inv σ2 := by
  obtain ⟨⟨h1, h2, h3, h4, h5⟩, dy, np, ng, kd, jy, pr, k1, k2, k3, k4⟩ := h
  have e : ∀ a k, ¬ sQ a k → σ2.1 a k = σ.1 a k := fun a k z => hf.1 a k z
  refine ⟨⟨h1.keep (fun k => e _ _ (by unfold sQ sX sM; omega)) (fun a k i1 i2 => e _ _ (by unfold sQ sX sM; omega)) (e _ _ (by unfold sQ sX sM; omega)) (fun k => e _ _ (by unfold sQ sX sM; omega)), h2.keep (e _ _ (by unfold sQ sX sM; omega)) (fun k => e _ _ (by unfold sQ sX sM; omega)) (e _ _ (by unfold sQ sX sM; omega)) (fun k => e _ _ (by unfold sQ sX sM; omega)), h3.keep (fun a k i1 i2 => e _ _ (by unfold sQ sX sM; omega)) (fun k => e _ _ (by unfold sQ sX sM; omega)) (fun k => e _ _ (by unfold sQ sX sM; omega)) hf.2, hF, fun k hk => by rw [e _ _ (by unfold sQ sX sM; omega)]; exact h5.1 k hk, fun k hk => by rw [e _ _ (by unfold sQ sX sM; omega)]; exact h5.2.1 k hk, fun k hk => by rw [e _ _ (by unfold sQ sX sM; omega)]; exact h5.2.2 k hk⟩, dy, np, ng, kd, jy, pr, k1, k2, k3.keep k1 (fun a k i1 i2 => e _ _ (by unfold sQ sX sM; omega)), k4.k96 k1 (fun k hk => e _ _ (by unfold sQ sX sM; omega))⟩
theorem sX_Q : ∀ a k, sX a k → sQ a k := fun _ _ z => Or.inl z
theorem sM_Q : ∀ a k, sM a k → sQ a k := fun _ _ z => Or.inr (Or.inl z)
/-- a call that tries and answers -/
theorem stp_q {fX fM : fm_M → Option (Int32 × fm_M)} {σ σ1 σ2 : fm_M} (r : Int32) (h : Inv σ) (hX : fX σ = some (r, σ1)) (qx : fEq sX σ σ1) (hM : fM σ1 = some (r, σ2)) (qm : fEq sM σ1 σ2) : opS fX fM σ := by
  refine ⟨r, σ1, σ2, hX, hM, inv_gen h (fEq.tr qx qm sX_Q sM_Q) (fun k hk => ?_)⟩
  rw [qm.1 _ _ (by unfold sM; omega), qm.1 _ _ (by unfold sM; omega), qx.1 _ _ (by unfold sX; omega), qx.1 _ _ (by unfold sX; omega)]
  exact h.1.2.2.2.1 k hk
/-- a call that tries and finds -/
theorem stp_qf {fX fM : fm_M → Option (Int32 × fm_M)} {σ σ1 : fm_M} (F : Nat) (hF : F < 7) (h : Inv σ) (hX : fX σ = fm_b (m_X11_tell (fnd F) σ1) fun r s => some (r, s)) (qx : fEq sX σ σ1) (hM : ∀ τ, eM σ1 τ → ∃ τ', fM τ = (fm_b (m_X12_no (nI F) τ') fun r s => some (r, s)) ∧ fEq sM τ τ') : opS fX fM σ := by
  have hs : eM σ1 (fm_sI σ1 94 F (σ1.1 94 F + nI 1)) := fun a k ha => by rw [nu_sI, if_neg (by omega)]
  obtain ⟨τ', t1, t2⟩ := hM _ hs
  refine ⟨fnd F, fm_sI σ1 94 F (σ1.1 94 F + nI 1), fm_sI τ' 100 F (τ'.1 100 F + nI 1), ?_, ?_, ?_⟩
  · rw [hX, ex_tell σ1 hF, nu_b]
  · rw [t1, em_no _ hF, nu_b]
  · refine inv_gen h ⟨fun a k z => ?_, ?_⟩ (fun k hk => ?_)
    · have z1 : ¬ sX a k := fun y => z (Or.inl y)
      have z2 : ¬ sM a k := fun y => z (Or.inr (Or.inl y))
      have z3 : a ≠ 94 := fun y => z (Or.inr (Or.inr (Or.inl y)))
      have z4 : a ≠ 100 := fun y => z (Or.inr (Or.inr (Or.inr y)))
      rw [nu_sI, if_neg (by omega), t2.1 _ _ z2, nu_sI, if_neg (by omega), qx.1 _ _ z1]
    · exact t2.2.trans qx.2
    · have hk4 := h.1.2.2.2.1 k hk
      have e1 : ∀ k, τ'.1 100 k = σ.1 100 k := fun k => by rw [t2.1 _ _ (by unfold sM; omega), nu_sI, if_neg (by omega), qx.1 _ _ (by unfold sX; omega)]
      have e2 : σ1.1 94 F = σ.1 94 F := qx.1 _ _ (by unfold sX; omega)
      have e3 : τ'.1 94 k = if k = F then σ.1 94 F + nI 1 else σ.1 94 k := by
        rw [t2.1 _ _ (by unfold sM; omega), nu_sI, e2]
        by_cases y : k = F
        · rw [if_pos ⟨rfl, y⟩, if_pos y]
        · rw [if_neg (fun q => y q.2), if_neg y, qx.1 _ _ (by unfold sX; omega)]
      rw [nu_sI, nu_sI, e1, e1, if_neg (by omega : ¬ (94 = 100 ∧ k = F)), e3]
      by_cases y : k = F
      · subst y; rw [if_pos ⟨rfl, rfl⟩, if_pos rfl, hk4]
      · rw [if_neg (fun q => y q.2), if_neg y]; exact hk4
-- one town becomes another
theorem ex_bec7Loop (kc : Nat → Nat → Int32 → fm_M → Option (Unit × fm_M)) {a0 a1 N : Nat} (h1 : a0 + 1 ≠ a1) (h2 : a0 ≠ a1) (hN : N ≤ 6) : ∀ (m fuel i : Nat) (σ : fm_M), m < fuel → i + m = N → σ.1 a1 1 = nI N → ∃ σ', m_X7_become_2 kc fuel a0 a1 (nI i) σ = kc a0 a1 (nI N) σ' ∧ (∀ k, i ≤ k → k < N → σ'.1 (a0 + 1) k = σ.1 (a1 + 1) k) ∧ fEq (fun a k => a = a0 + 1 ∧ i ≤ k) σ σ' := by
  intro m
  induction m with
  | zero =>
    intro fuel i σ hf hi hn
    obtain ⟨n, rfl⟩ : ∃ n, fuel = n + 1 := ⟨fuel - 1, by omega⟩
    refine ⟨σ, ?_, fun k i1 i2 => by omega, fEq.rf⟩
    rw [m_X7_become_2, hn, if_pos (by rw [nu_le (by omega) (by omega)]; omega), show i = N by omega]
  | succ m ih =>
    intro fuel i σ hf hi hn
    obtain ⟨n, rfl⟩ : ∃ n, fuel = n + 1 := ⟨fuel - 1, by omega⟩
    obtain ⟨σ', v1, v2, v3⟩ := ih n (i + 1) (fm_sI σ (a0 + 1) i (σ.1 (a1 + 1) i)) (by omega) (by omega) (by rw [nu_sI, if_neg (by omega)]; exact hn)
    refine ⟨σ', ?_, fun k i1 i2 => ?_, ?_⟩
    · rw [m_X7_become_2, hn, if_neg (by rw [nu_le (by omega) (by omega)]; omega), nu_in (by omega) (by decide), nu_g, nu_g, nu_let, nu_cl (by omega)]
      simp only [nu_lit, nI_add]
      exact v1
    · by_cases e : k = i
      · subst e
        rw [v3.1 _ _ (by omega), nu_sI, if_pos ⟨rfl, rfl⟩]
      · rw [v2 k (by omega) i2, nu_sI, if_neg (by omega)]
    · exact fEq.tr (S2 := fun a k => a = a0 + 1 ∧ i + 1 ≤ k) (fEq.set (S := fun a k => a = a0 + 1 ∧ i ≤ k) ⟨rfl, Nat.le_refl _⟩) v3 (fun _ _ z => z) (fun a k z => ⟨z.1, by omega⟩)
theorem ex_bec7 {σ : fm_M} {a0 a1 : Nat} {x : Nat → Nat} (h1 : a0 + 1 ≠ a1) (h2 : a0 ≠ a1) (h3 : a0 ≠ a1 + 1) (hx : xRec σ a1 x) (h0 : x 0 ≤ 6) (hx3 : x 3 ≤ 1) : ∃ σ', m_X7_become a0 a1 σ = some ((), σ') ∧ xRec σ' a0 x ∧ fEq (sA a0) σ σ' := by
  unfold m_X7_become
  simp only [nu_lit]
  obtain ⟨σ1, v1, v2, v3⟩ := ex_bec7Loop (fun (x0_y5 : Nat) (x1_y5 : Nat) (x2_y5) (σ_y5) => fm_let (fm_sI σ_y5 x0_y5 1 (σ_y5.1 x1_y5 1)) fun σ6 => (fm_let (fm_sI σ6 x0_y5 2 (σ6.1 x1_y5 2)) fun σ8 => (fm_let (fm_sI σ8 x0_y5 3 (σ8.1 x1_y5 3)) fun σ10 => (fm_g (fm_bz (σ10.1 x1_y5 4)) (fm_let (fm_sI σ10 x0_y5 4 (σ10.1 x1_y5 4)) fun σ12 => (some ((), σ12))))))) h1 h2 h0 (x 0) fm_fu 0 σ (by have := nu_fu; omega) (by omega) hx.n
  rw [v1]
  have e : ∀ k, σ1.1 a1 k = σ.1 a1 k := fun k => v3.1 _ _ (by omega)
  have c : ∀ (τ : fm_M) (k : Nat) (v : Int32) (f : Nat), (fm_sI τ a0 k v).1 a1 f = τ.1 a1 f := fun τ k v f => by rw [nu_sI, if_neg (by omega)]
  have g1 := hx.1 0 (by omega)
  have g2 := hx.1 1 (by omega)
  have g3 := hx.1 2 (by omega)
  have g4 : σ.1 a1 4 = nI (x 3) := hx.1 3 (by omega)
  have bz : fm_bz (nI (x 3)) = true := by
    have : x 3 = 0 ∨ x 3 = 1 := by omega
    rcases this with z | z
    · rw [z]; exact nu_bz0
    · rw [z]; exact nu_bz1
  rw [nu_let, nu_let, nu_let, c, c, c, c, c, c, e, e, e, e, g4, bz, nu_g, nu_let]
  refine ⟨_, rfl, ⟨fun f hf => ?_, fun i hi => ?_⟩, ?_⟩
  · have : f = 0 ∨ f = 1 ∨ f = 2 ∨ f = 3 := by omega
    rcases this with rfl | rfl | rfl | rfl
    · rw [nu_sI, if_neg (by omega), nu_sI, if_neg (by omega), nu_sI, if_neg (by omega), nu_sI, if_pos ⟨rfl, rfl⟩]; exact g1
    · rw [nu_sI, if_neg (by omega), nu_sI, if_neg (by omega), nu_sI, if_pos ⟨rfl, rfl⟩]; exact g2
    · rw [nu_sI, if_neg (by omega), nu_sI, if_pos ⟨rfl, rfl⟩]; exact g3
    · rw [nu_sI, if_pos ⟨rfl, rfl⟩]
  · rw [nu_sI, if_neg (by omega), nu_sI, if_neg (by omega), nu_sI, if_neg (by omega), nu_sI, if_neg (by omega), v2 _ (by omega) (by omega)]
    exact hx.2 i hi
  · have s : ∀ (τ : fm_M) (k : Nat) (v : Int32), fEq (sA a0) τ (fm_sI τ a0 k v) := fun τ k v => fEq.set (Or.inl rfl)
    have i : ∀ a k, sA a0 a k → sA a0 a k := fun _ _ z => z
    exact fEq.tr (fEq.tr (fEq.tr (fEq.tr (S := sA a0) v3 (s _ _ _) (fun a k z => Or.inr z.1) i) (s _ _ _) i i) (s _ _ _) i i) (s _ _ _) i i
theorem ex_bec26 (kc : Nat → Nat → Int32 → fm_M → Option (Unit × fm_M)) {b c N : Nat} (h : b + 25 ≤ c ∨ c + 25 ≤ b) (hN : N ≤ 6) : ∀ (m fuel i : Nat) (σ : fm_M), m < fuel → i + m = N → σ.1 b 4 = nI N → ∃ σ', m_X10_become_26 kc fuel b c (nI i) σ = kc b c (nI N) σ' ∧ (∀ k, i ≤ k → k < N → σ'.1 (b + 2 + k) 0 = σ.1 (c + 2 + k) 0 ∧ σ'.1 (b + 2 + k) 1 = σ.1 (c + 2 + k) 1) ∧ fEq (fun a _ => b + 2 + i ≤ a ∧ a < b + 8) σ σ' := by
  intro m
  induction m with
  | zero =>
    intro fuel i σ hf hi hn
    obtain ⟨n, rfl⟩ : ∃ n, fuel = n + 1 := ⟨fuel - 1, by omega⟩
    refine ⟨σ, ?_, fun k i1 i2 => by omega, fEq.rf⟩
    rw [m_X10_become_26, hn, if_pos (by rw [nu_le (by omega) (by omega)]; omega), show i = N by omega]
  | succ m ih =>
    intro fuel i σ hf hi hn
    obtain ⟨n, rfl⟩ : ∃ n, fuel = n + 1 := ⟨fuel - 1, by omega⟩
    have e2 : (fm_sI σ (b + 2 + i) 0 (σ.1 (c + 2 + i) 0)).1 (c + 2 + i) 1 = σ.1 (c + 2 + i) 1 := by rw [nu_sI, if_neg (by omega)]
    obtain ⟨σ', v1, v2, v3⟩ := ih n (i + 1) (fm_sI (fm_sI σ (b + 2 + i) 0 (σ.1 (c + 2 + i) 0)) (b + 2 + i) 1 (σ.1 (c + 2 + i) 1)) (by omega) (by omega) (by rw [nu_sI, if_neg (by omega), nu_sI, if_neg (by omega)]; exact hn)
    refine ⟨σ', ?_, fun k i1 i2 => ?_, ?_⟩
    · rw [m_X10_become_26, hn, if_neg (by rw [nu_le (by omega) (by omega)]; omega), nu_in (by omega) (by decide), nu_g, nu_g, nu_cl (by omega), m_X5_become, nu_let, e2, nu_let, nu_b]
      simp only [nu_lit, nI_add]
      exact v1
    · by_cases e : k = i
      · subst e
        exact ⟨by rw [v3.1 _ _ (by omega), nu_sI, if_neg (by omega), nu_sI, if_pos ⟨rfl, rfl⟩], by rw [v3.1 _ _ (by omega), nu_sI, if_pos ⟨rfl, rfl⟩]⟩
      · have := v2 k (by omega) i2
        rw [nu_sI, if_neg (by omega), nu_sI, if_neg (by omega), nu_sI, if_neg (by omega), nu_sI, if_neg (by omega)] at this
        exact this
    · have s : ∀ (τ : fm_M) (k : Nat) (v : Int32), fEq (fun a _ => b + 2 + i ≤ a ∧ a < b + 8) τ (fm_sI τ (b + 2 + i) k v) := fun τ k v => fEq.set ⟨Nat.le_refl _, by omega⟩
      exact fEq.tr (S := fun a _ => b + 2 + i ≤ a ∧ a < b + 8) (fEq.tr (S := fun a _ => b + 2 + i ≤ a ∧ a < b + 8) (s _ _ _) (s _ _ _) (fun _ _ z => z) (fun _ _ z => z)) v3 (fun _ _ z => z) (fun a k z => ⟨by omega, z.2⟩)
theorem ex_bec57 (kc : Nat → Nat → Int32 → fm_M → Option (Unit × fm_M)) {b c N : Nat} {pr : Nat → Nat → Nat} (h : b + 25 ≤ c ∨ c + 25 ≤ b) (hN : N ≤ 8) (hr : ∀ g, g < N → pr g 0 ≤ 6 ∧ pr g 3 ≤ 1) : ∀ (m fuel i : Nat) (σ : fm_M), m < fuel → i + m = N → σ.1 b 5 = nI N → (∀ g, g < N → xRec σ (c + 9 + 2 * g) (pr g)) → ∃ σ', m_X10_become_57 kc fuel b c (nI i) σ = kc b c (nI N) σ' ∧ (∀ g, i ≤ g → g < N → xRec σ' (b + 9 + 2 * g) (pr g)) ∧ fEq (fun a _ => b + 9 + 2 * i ≤ a ∧ a < b + 25) σ σ' := by
  intro m
  induction m with
  | zero =>
    intro fuel i σ hf hi hn hx
    obtain ⟨n, rfl⟩ : ∃ n, fuel = n + 1 := ⟨fuel - 1, by omega⟩
    refine ⟨σ, ?_, fun k i1 i2 => by omega, fEq.rf⟩
    rw [m_X10_become_57, hn, if_pos (by rw [nu_le (by omega) (by omega)]; omega), show i = N by omega]
  | succ m ih =>
    intro fuel i σ hf hi hn hx
    obtain ⟨n, rfl⟩ : ∃ n, fuel = n + 1 := ⟨fuel - 1, by omega⟩
    obtain ⟨σ1, u1, u2, u3⟩ := ex_bec7 (σ := σ) (a0 := b + 9 + 2 * i) (a1 := c + 9 + 2 * i) (by omega) (by omega) (by omega) (hx i (by omega)) (hr i (by omega)).1 (hr i (by omega)).2
    have ue : ∀ a k, a ≠ b + 9 + 2 * i → a ≠ b + 9 + 2 * i + 1 → σ1.1 a k = σ.1 a k := fun a k i1 i2 => u3.1 _ _ (fun z => z.elim i1 i2)
    obtain ⟨σ', v1, v2, v3⟩ := ih n (i + 1) σ1 (by omega) (by omega) (by rw [ue _ _ (by omega) (by omega)]; exact hn) (fun g hg => (hx g hg).out (fun k => ue _ _ (by omega) (by omega)) (fun k => ue _ _ (by omega) (by omega)))
    refine ⟨σ', ?_, fun g i1 i2 => ?_, ?_⟩
    · rw [m_X10_become_57, hn, if_neg (by rw [nu_le (by omega) (by omega)]; omega), nu_in (by omega) (by decide), nu_g, nu_g, nu_cl (by omega), u1, nu_b]
      simp only [nu_lit, nI_add]
      exact v1
    · by_cases e : g = i
      · subst e
        exact u2.out (fun k => v3.1 _ _ (by omega)) (fun k => v3.1 _ _ (by omega))
      · exact v2 g (by omega) i2
    · exact fEq.tr (S := fun a _ => b + 9 + 2 * i ≤ a ∧ a < b + 25) u3 v3 (fun a k z => by rcases z with z | z <;> (constructor <;> omega)) (fun a k z => ⟨by omega, z.2⟩)
theorem ex_become {σ : fm_M} {b c dy np ng : Nat} {kd jy : Nat → Nat} {pr : Nat → Nat → Nat} (h : b + 25 ≤ c ∨ c + 25 ≤ b) (ho : tOk dy np ng kd jy pr) (ht : xTown σ c dy np ng kd jy pr) : ∃ σ', m_X10_become b c σ = some ((), σ') ∧ xTown σ' b dy np ng kd jy pr ∧ fEq (sB b) σ σ' := by
  have ho' := ho
  obtain ⟨o1, o2, o3, o4, o5⟩ := ho
  unfold m_X10_become
  simp only [nu_lit]
  have c1 : ∀ (τ : fm_M) (k : Nat) (v : Int32) (f : Nat), (fm_sI τ b k v).1 c f = τ.1 c f := fun τ k v f => by rw [nu_sI, if_neg (by omega)]
  rw [nu_let, nu_let, nu_let, c1, c1, c1, ht.1, ht.2.1, ht.2.2.1]
  have out0 : ∀ a k, a ≠ b → (fm_sI (fm_sI (fm_sI σ b 3 (nI dy)) b 4 (nI np)) b 5 (nI ng)).1 a k = σ.1 a k := fun a k i1 => by rw [nu_sI, if_neg (by omega), nu_sI, if_neg (by omega), nu_sI, if_neg (by omega)]
  have b3 : (fm_sI (fm_sI (fm_sI σ b 3 (nI dy)) b 4 (nI np)) b 5 (nI ng)).1 b 3 = nI dy := by rw [nu_sI, if_neg (by omega), nu_sI, if_neg (by omega), nu_sI, if_pos ⟨rfl, rfl⟩]
  have b4 : (fm_sI (fm_sI (fm_sI σ b 3 (nI dy)) b 4 (nI np)) b 5 (nI ng)).1 b 4 = nI np := by rw [nu_sI, if_neg (by omega), nu_sI, if_pos ⟨rfl, rfl⟩]
  have b5 : (fm_sI (fm_sI (fm_sI σ b 3 (nI dy)) b 4 (nI np)) b 5 (nI ng)).1 b 5 = nI ng := by rw [nu_sI, if_pos ⟨rfl, rfl⟩]
  have f0 : fEq (sB b) σ (fm_sI (fm_sI (fm_sI σ b 3 (nI dy)) b 4 (nI np)) b 5 (nI ng)) := ⟨fun a k z => out0 a k (fun y => z ⟨by omega, by omega⟩), rfl⟩
  generalize fm_sI (fm_sI (fm_sI σ b 3 (nI dy)) b 4 (nI np)) b 5 (nI ng) = τ at out0 b3 b4 b5 f0 ⊢
  have htc : xTown τ c dy np ng kd jy pr := ht.keep ho' (fun a k i1 i2 => out0 _ _ (by omega))
  obtain ⟨σ1, u1, u2, u3⟩ := ex_bec26 (fun (x0_y12 : Nat) (x1_y12 : Nat) (x2_y12) (σ_y12) => m_X10_become_57 (fun (x0_y18 : Nat) (x1_y18 : Nat) (x2_y18) (σ_y18) => some ((), σ_y18)) fm_fu x0_y12 x1_y12 (nI 0) σ_y12) h o1 np fm_fu 0 τ (by have := nu_fu; omega) (by omega) b4
  have ht1 : xTown σ1 c dy np ng kd jy pr := htc.keep ho' (fun a k i1 i2 => u3.1 _ _ (by omega))
  obtain ⟨σ2, v1, v2, v3⟩ := ex_bec57 (fun (x0_y18 : Nat) (x1_y18 : Nat) (x2_y18) (σ_y18) => some ((), σ_y18)) (b := b) (c := c) (N := ng) (pr := pr) h o2 (fun g hg => ⟨(o5 g hg).1.1, (o5 g hg).1.2.2.1⟩) ng fm_fu 0 σ1 (by have := nu_fu; omega) (by omega) (by rw [u3.1 _ _ (by omega)]; exact b5) ht1.2.2.2.2
  rw [u1, v1]
  refine ⟨σ2, rfl, ⟨?_, ?_, ?_, fun k hk => ?_, fun g hg => v2 g (by omega) hg⟩, ?_⟩
  · rw [v3.1 _ _ (by omega), u3.1 _ _ (by omega)]; exact b3
  · rw [v3.1 _ _ (by omega), u3.1 _ _ (by omega)]; exact b4
  · rw [v3.1 _ _ (by omega), u3.1 _ _ (by omega)]; exact b5
  · rw [v3.1 _ _ (by omega), v3.1 _ _ (by omega)]
    have := u2 k (by omega) hk
    rw [this.1, this.2]
    exact htc.2.2.2.1 k hk
  · exact fEq.tr (fEq.tr (S := sB b) f0 u3 (fun _ _ z => z) (fun a k z => ⟨by omega, by omega⟩)) v3 (fun _ _ z => z) (fun a k z => ⟨by omega, by omega⟩)
theorem sB_X : ∀ a k, sB 58 a k → sX a k := fun a k z => Or.inl ⟨z.1, by have := z.2; omega⟩
theorem ex_startTrial {σ : fm_M} {dy np ng : Nat} {kd jy : Nat → Nat} {pr : Nat → Nat → Nat} (ho : tOk dy np ng kd jy pr) (ht : xTown σ 8 dy np ng kd jy pr) : ∃ σ', m_X11_startTrial σ = some ((), σ') ∧ xTown σ' 58 dy np ng kd jy pr ∧ fEq sX σ σ' := by
  obtain ⟨σ', u1, u2, u3⟩ := ex_become (b := 58) (c := 8) (by omega) ho ht
  refine ⟨σ', ?_, u2, u3.mono sB_X⟩
  unfold m_X11_startTrial
  rw [u1, nu_b]
theorem ex_go58 {σ : fm_M} {dy np ng N : Nat} {kd jy : Nat → Nat} {pr : Nat → Nat → Nat} (hN : N < 2 ^ 10) (ho : tOk dy np ng kd jy pr) (hd : dy + N < 2 ^ 20) (ht : xTown σ 58 dy np ng kd jy pr) : ∃ σ', m_X10_goOn 58 (nI N) σ = some ((), σ') ∧ xTown σ' 58 (tDays np ng kd N (dy, jy, pr)).1 np ng kd (tDays np ng kd N (dy, jy, pr)).2.1 (tDays np ng kd N (dy, jy, pr)).2.2 ∧ fEq sX σ σ' := by
  obtain ⟨σ', u1, u2, u3⟩ := ex_goOn (q := (dy, jy, pr)) hN ho hd ht
  exact ⟨σ', u1, u2, u3.mono sB_X⟩
theorem em_asideLoop (kc : Int32 → fm_M → Option (Unit × fm_M)) : ∀ (m fuel i : Nat) (σ : fm_M), m < fuel → i + m = 96 → ∃ σ', m_X12_setsAside_2 kc fuel (nI i) σ = kc (nI 96) σ' ∧ (∀ k, i ≤ k → k < 96 → σ'.1 99 k = σ.1 97 k) ∧ fEq (fun a k => a = 99 ∧ i ≤ k ∧ k < 96) σ σ' := by
  intro m
  induction m with
  | zero =>
    intro fuel i σ hf hi
    obtain ⟨n, rfl⟩ : ∃ n, fuel = n + 1 := ⟨fuel - 1, by omega⟩
    refine ⟨σ, ?_, fun k i1 i2 => by omega, fEq.rf⟩
    rw [m_X12_setsAside_2]
    simp only [nu_lit]
    rw [if_pos (by rw [nu_le (by omega) (by omega)]; omega), show i = 96 by omega]
  | succ m ih =>
    intro fuel i σ hf hi
    obtain ⟨n, rfl⟩ : ∃ n, fuel = n + 1 := ⟨fuel - 1, by omega⟩
    obtain ⟨σ', v1, v2, v3⟩ := ih n (i + 1) (fm_sI σ 99 i (σ.1 97 i)) (by omega) (by omega)
    refine ⟨σ', ?_, fun k i1 i2 => ?_, ?_⟩
    · rw [m_X12_setsAside_2]
      simp only [nu_lit, nI_add]
      rw [if_neg (by rw [nu_le (by omega) (by omega)]; omega), nu_in (by omega) (by decide), nu_g, nu_g, nu_let, nu_cl (by omega)]
      exact v1
    · by_cases e : k = i
      · subst e
        rw [v3.1 _ _ (by omega), nu_sI, if_pos ⟨rfl, rfl⟩]
      · rw [v2 k (by omega) i2, nu_sI, if_neg (by omega)]
    · exact fEq.tr (S2 := fun a k => a = 99 ∧ i + 1 ≤ k ∧ k < 96) (fEq.set (S := fun a k => a = 99 ∧ i ≤ k ∧ k < 96) ⟨rfl, Nat.le_refl _, by omega⟩) v3 (fun _ _ z => z) (fun a k z => ⟨z.1, by omega, z.2.2⟩)
theorem em_backLoop (kc : Int32 → fm_M → Option (Unit × fm_M)) : ∀ (m fuel i : Nat) (σ : fm_M), m < fuel → i + m = 96 → ∃ σ', m_X12_laysBack_2 kc fuel (nI i) σ = kc (nI 96) σ' ∧ (∀ k, i ≤ k → k < 96 → σ'.1 97 k = σ.1 99 k) ∧ fEq (fun a k => a = 97 ∧ i ≤ k ∧ k < 96) σ σ' := by
  intro m
  induction m with
  | zero =>
    intro fuel i σ hf hi
    obtain ⟨n, rfl⟩ : ∃ n, fuel = n + 1 := ⟨fuel - 1, by omega⟩
    refine ⟨σ, ?_, fun k i1 i2 => by omega, fEq.rf⟩
    rw [m_X12_laysBack_2]
    simp only [nu_lit]
    rw [if_pos (by rw [nu_le (by omega) (by omega)]; omega), show i = 96 by omega]
  | succ m ih =>
    intro fuel i σ hf hi
    obtain ⟨n, rfl⟩ : ∃ n, fuel = n + 1 := ⟨fuel - 1, by omega⟩
    obtain ⟨σ', v1, v2, v3⟩ := ih n (i + 1) (fm_sI σ 97 i (σ.1 99 i)) (by omega) (by omega)
    refine ⟨σ', ?_, fun k i1 i2 => ?_, ?_⟩
    · rw [m_X12_laysBack_2]
      simp only [nu_lit, nI_add]
      rw [if_neg (by rw [nu_le (by omega) (by omega)]; omega), nu_in (by omega) (by decide), nu_g, nu_g, nu_let, nu_cl (by omega)]
      exact v1
    · by_cases e : k = i
      · subst e
        rw [v3.1 _ _ (by omega), nu_sI, if_pos ⟨rfl, rfl⟩]
      · rw [v2 k (by omega) i2, nu_sI, if_neg (by omega)]
    · exact fEq.tr (S2 := fun a k => a = 97 ∧ i + 1 ≤ k ∧ k < 96) (fEq.set (S := fun a k => a = 97 ∧ i ≤ k ∧ k < 96) ⟨rfl, Nat.le_refl _, by omega⟩) v3 (fun _ _ z => z) (fun a k z => ⟨z.1, by omega, z.2.2⟩)
theorem em_setsAside (σ : fm_M) : ∃ σ', m_X12_setsAside σ = some ((), σ') ∧ (∀ k, k < 96 → σ'.1 99 k = σ.1 97 k) ∧ fEq (fun a k => a = 99 ∧ k < 96) σ σ' := by
  unfold m_X12_setsAside
  simp only [nu_lit]
  obtain ⟨σ', v1, v2, v3⟩ := em_asideLoop (fun (x1_y5) (σ_y5) => some ((), σ_y5)) 96 fm_fu 0 σ (by have := nu_fu; omega) (by omega)
  exact ⟨σ', v1, fun k hk => v2 k (by omega) hk, v3.mono (fun a k z => ⟨z.1, z.2.2⟩)⟩
theorem em_laysBack (σ : fm_M) : ∃ σ', m_X12_laysBack σ = some ((), σ') ∧ (∀ k, k < 96 → σ'.1 97 k = σ.1 99 k) ∧ fEq (fun a k => a = 97 ∧ k < 96) σ σ' := by
  unfold m_X12_laysBack
  simp only [nu_lit]
  obtain ⟨σ', v1, v2, v3⟩ := em_backLoop (fun (x1_y5) (σ_y5) => some ((), σ_y5)) 96 fm_fu 0 σ (by have := nu_fu; omega) (by omega)
  exact ⟨σ', v1, fun k hk => v2 k (by omega) hk, v3.mono (fun a k z => ⟨z.1, z.2.2⟩)⟩
