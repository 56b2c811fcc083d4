theorem ex_startLoop {L g : Nat} {p x r0 : Nat → Nat} (hL : L ≤ 5) (hg : g < 8) (h0 : x 0 = L) (hp : ∀ k, k < L → x (4 + k) = p k ∧ p k < 4) : ∀ (m fuel i : Nat) (σ : fm_M), m < fuel → i + m = L → rowR σ i (srt p i r0) → xRec σ (8 + 9 + 2 * g) x → ∃ σ', m_X11_startRow_2 (fun (x1_y14) (x2_y14) (x3_y14) (σ_y14) => some ((), σ_y14)) fuel (nI g) (nI L) (nI i) σ = some ((), σ') ∧ rowR σ' L (srt p L r0) ∧ fEq s95 σ σ' := by
  intro m
  induction m with
  | zero =>
    intro fuel i σ hf hi h hx
    obtain ⟨n, rfl⟩ : ∃ n, fuel = n + 1 := ⟨fuel - 1, by omega⟩
    have e : i = L := by omega
    subst e
    refine ⟨σ, ?_, h, fEq.rf⟩
    rw [m_X11_startRow_2, if_pos (by rw [nu_le (by omega) (by omega)]; omega)]
  | succ m ih =>
    intro fuel i σ hf hi h hx
    obtain ⟨n, rfl⟩ : ∃ n, fuel = n + 1 := ⟨fuel - 1, by omega⟩
    have hpi := hp i (by omega)
    have r1 : rowR (fm_sI σ 95 i (nI (p i))) (i + 1) (fun k => if k = i then p i else srt p i r0 k) := fun k hk => by
      dsimp only
      by_cases z : k = i
      · rw [nu_sI, if_pos ⟨rfl, z⟩, if_pos z]; exact ⟨rfl, hpi.2⟩
      · rw [nu_sI, if_neg (fun y => z y.2), if_neg z]; exact h k (by omega)
    obtain ⟨w, σ1, u1, u2, u3⟩ := ex_ins (fun (x1_y13) (x2_y13) (x3_y13) (x4_y13) (σ_y13) => m_X11_startRow_2 (fun (x1_y14) (x2_y14) (x3_y14) (σ_y14) => some ((), σ_y14)) n x1_y13 x2_y13 (x3_y13 + (nI 1)) σ_y13) (L := i + 1) (z1 := nI g) (z2 := nI L) (z3 := nI i) (by omega) i fm_fu _ (fm_sI σ 95 i (nI (p i))) (by have := nu_fu; omega) (by omega) r1
    have f1 : fEq s95 σ (fm_sI σ 95 i (nI (p i))) := fEq.set rfl
    have f2 : fEq s95 σ σ1 := fEq.tr f1 u3 (fun _ _ z => z) (fun _ _ z => z)
    obtain ⟨σ', v1, v2, v3⟩ := ih n (i + 1) σ1 (by omega) (by omega) u2 (hx.out (fun k => f2.1 _ _ (by unfold s95; omega)) (fun k => f2.1 _ _ (by unfold s95; omega)))
    refine ⟨σ', ?_, v2, fEq.tr f2 v3 (fun _ _ z => z) (fun _ _ z => z)⟩
    rw [m_X11_startRow_2, if_neg (by rw [nu_le (by omega) (by omega)]; omega), nu_in (by omega) (by decide), nu_g, nu_cl (n := g) (by omega), ex_paperAt hx (by omega) (by omega), nu_b, nu_in (by omega) (by decide), nu_g, nu_let, nu_cl (n := i) (by omega), hpi.1]
    simp only [nu_lit]
    rw [u1, nI_add]
    exact v1
def znr (r : Nat → Nat) : Nat → Nat
  | 0 => 0
  | n + 1 => znr r n * 10 + r n + 1
theorem znr_cong {r s : Nat → Nat} : ∀ n, (∀ k, k < n → r k = s k) → znr r n = znr s n
  | 0, _ => rfl
  | n + 1, h => by rw [znr, znr, znr_cong n (fun k hk => h k (by omega)), h n (by omega)]
theorem znr_dg : ∀ (n u : Nat), znr (dg n u) n = zn n u
  | 0, _ => rfl
  | n + 1, u => by
    have e : ∀ k, k < n → dg (n + 1) u k = dg n (u / 4) k := fun k hk => by rw [dg, if_neg (by omega)]
    rw [znr, zn, znr_cong n e, znr_dg n (u / 4), dg, if_pos rfl]; omega
theorem znr_lt {r : Nat → Nat} : ∀ n, (∀ k, k < n → r k < 4) → znr r n < 10 ^ n
  | 0, _ => by rw [znr]; decide
  | n + 1, h => by
    have h1 := znr_lt n (fun k hk => h k (by omega))
    have h2 := h n (by omega)
    rw [znr, Nat.pow_succ]; omega
theorem ex_asNumLoop (kc : Int32 → Int32 → Int32 → fm_M → Option (Int32 × fm_M)) {σ : fm_M} {L : Nat} {r : Nat → Nat} (hL : L ≤ 5) (h : rowR σ L r) : ∀ (m fuel i : Nat), m < fuel → i + m = L → m_X11_rowAsNumber_4 kc fuel (nI L) (nI (znr r i)) (nI i) σ = kc (nI L) (nI (znr r L)) (nI L) σ := by
  intro m
  induction m with
  | zero =>
    intro fuel i hf hi
    obtain ⟨n, rfl⟩ : ∃ n, fuel = n + 1 := ⟨fuel - 1, by omega⟩
    have e : i = L := by omega
    subst e
    rw [m_X11_rowAsNumber_4, if_pos (by rw [nu_le (by omega) (by omega)]; omega)]
  | succ m ih =>
    intro fuel i hf hi
    obtain ⟨n, rfl⟩ : ∃ n, fuel = n + 1 := ⟨fuel - 1, by omega⟩
    rw [m_X11_rowAsNumber_4, if_neg (by rw [nu_le (by omega) (by omega)]; omega), nu_in (by omega) (by decide), nu_g, nu_cl (by omega), (h i (by omega)).1]
    simp only [nu_lit, nI_add, pk_mul]
    exact ih n (i + 1) (by omega) (by omega)
theorem ex_asNum {σ : fm_M} {L u : Nat} (hL : L ≤ 5) (h : rowR σ L (dg L u)) : m_X11_rowAsNumber (nI L) σ = some (nI (zn L u), σ) := by
  unfold m_X11_rowAsNumber
  simp only [nu_lit]
  rw [← znr_dg]
  exact ex_asNumLoop _ hL h L fm_fu 0 (by have := nu_fu; omega) (by omega)
theorem ex_anewLoop {L a : Nat} {x r : Nat → Nat} (hL : L ≤ 5) (ha : a + 1 < 95) : ∀ (m fuel i : Nat) (σ : fm_M), m < fuel → i + m = L → rowR σ L r → xRec σ a (rL x r i) → ∃ σ', m_X7_layAnew_7 (fun (x0_y7 : Nat) (x2_y7) (x3_y7) (σ_y7) => some ((), σ_y7)) fuel a (nI L) (nI i) σ = some ((), σ') ∧ xRec σ' a (rL x r L) ∧ fEq (sA a) σ σ' := by
  intro m
  induction m with
  | zero =>
    intro fuel i σ hf hi h hx
    obtain ⟨n, rfl⟩ : ∃ n, fuel = n + 1 := ⟨fuel - 1, by omega⟩
    have e : i = L := by omega
    subst e
    refine ⟨σ, ?_, hx, fEq.rf⟩
    rw [m_X7_layAnew_7, if_pos (by rw [nu_le (by omega) (by omega)]; omega)]
  | succ m ih =>
    intro fuel i σ hf hi h hx
    obtain ⟨n, rfl⟩ : ∃ n, fuel = n + 1 := ⟨fuel - 1, by omega⟩
    obtain ⟨σ1, u1, u2, u3⟩ := ex_layInnermost (q := r i) hx (show i < 6 by omega)
    rw [rApp_L] at u2
    have h' : rowR σ1 L r := fun k hk => by rw [u3.1 _ _ (fun z => by rcases z with z | z <;> omega)]; exact h k hk
    obtain ⟨σ', v1, v2, v3⟩ := ih n (i + 1) σ1 (by omega) (by omega) h' u2
    refine ⟨σ', ?_, v2, fEq.tr u3 v3 (fun _ _ z => z) (fun _ _ z => z)⟩
    rw [m_X7_layAnew_7, if_neg (by rw [nu_le (by omega) (by omega)]; omega), show Int32.ofNat 6 = nI 6 from rfl, if_neg (by rw [nu_le (by omega) (by omega)]; omega), nu_in (by omega) (by decide), nu_g, nu_cl (by omega), (h i (by omega)).1, u1, nu_b]
    simp only [nu_lit, nI_add]
    exact v1
theorem ex_anew {σ : fm_M} {L a : Nat} {x r : Nat → Nat} (hL : L ≤ 5) (ha : a + 1 < 95) (h : rowR σ L r) (hx : xRec σ a x) : ∃ σ', m_X7_layAnew a (nI L) σ = some ((), σ') ∧ xRec σ' a (rL x r L) ∧ fEq (sA a) σ σ' := by
  unfold m_X7_layAnew
  simp only [nu_lit]
  rw [nu_let]
  have x0 : xRec (fm_sI σ a 1 (nI 0)) a (rL x r 0) := by
    refine ⟨fun f hf => ?_, fun i hi => absurd (show i < 0 from hi) (by omega)⟩
    by_cases q : f = 0
    · subst q; rw [nu_sI, if_pos ⟨rfl, rfl⟩]; rfl
    · rw [nu_sI, if_neg (by omega), hx.1 f hf]
      unfold rL
      rw [if_neg q, if_neg (by omega)]
  have f0 : fEq (sA a) σ (fm_sI σ a 1 (nI 0)) := fEq.set (Or.inl rfl)
  obtain ⟨σ', v1, v2, v3⟩ := ex_anewLoop hL ha L fm_fu 0 (fm_sI σ a 1 (nI 0)) (by have := nu_fu; omega) (by omega) (fun k hk => by rw [nu_sI, if_neg (by omega)]; exact h k hk) x0
  exact ⟨σ', v1, v2, fEq.tr f0 v3 (fun _ _ z => z) (fun _ _ z => z)⟩
