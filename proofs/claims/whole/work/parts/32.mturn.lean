theorem em_takesLoop (kc : Int32 → Int32 → Int32 → fm_M → Option (Int32 × fm_M)) {p n : Nat} {v : Int32} (hp : p < 8) (hn : n ≤ 5) : ∀ (m fuel i : Nat) (σ : fm_M), m < fuel → i + m = n → σ.1 97 (16 + 10 * p + 0) = nI n → ∃ σ', m_X12_takesLayer_23 kc fuel (nI p) v (nI i) σ = kc (nI p) v (nI n) σ' ∧ (∀ k, i ≤ k → k < n → σ'.1 97 (20 + 10 * p + k) = σ.1 97 (20 + 10 * p + (k + 1))) ∧ fEq (fun a k => a = 97 ∧ 20 + 10 * p + i ≤ k ∧ k < 20 + 10 * p + n) σ σ' := by
  intro m
  induction m with
  | zero =>
    intro fuel i σ hf hi h0
    obtain ⟨f, rfl⟩ : ∃ f, fuel = f + 1 := ⟨fuel - 1, by omega⟩
    refine ⟨σ, ?_, fun k h1 h2 => by omega, fEq.rf⟩
    rw [m_X12_takesLayer_23]
    simp only [nu_lit]
    rw [em_of1 σ (by omega), nu_b, h0, if_pos (by rw [nu_le (by omega) (by omega)]; omega), show i = n by omega]
  | succ m ih =>
    intro fuel i σ hf hi h0
    obtain ⟨f, rfl⟩ : ∃ f, fuel = f + 1 := ⟨fuel - 1, by omega⟩
    obtain ⟨σ', h1, h2, h3⟩ := ih f (i + 1) (fm_sI σ 97 (16 + 10 * p + (4 + i)) (σ.1 97 (16 + 10 * p + (4 + i + 1)))) (by omega) (by omega) (by rw [nu_sI, if_neg (by omega)]; exact h0)
    refine ⟨σ', ?_, fun k k1 k2 => ?_, ?_⟩
    · rw [m_X12_takesLayer_23]
      simp only [nu_lit, nI_add]
      rw [em_of1 σ (by omega), nu_b, h0, if_neg (by rw [nu_le (by omega) (by omega)]; omega), em_of1 σ (by omega), nu_b, em_lays1 σ (by omega), nu_b]
      exact h1
    · by_cases e : k = i
      · subst e
        rw [h3.1 97 _ (by omega), nu_sI, if_pos ⟨rfl, by omega⟩, show 20 + 10 * p + (k + 1) = 16 + 10 * p + (4 + k + 1) by omega]
      · rw [h2 k (by omega) k2, nu_sI, if_neg (by omega)]
    · exact fEq.tr (S1 := fun a k => a = 97 ∧ 20 + 10 * p + i ≤ k ∧ k < 20 + 10 * p + n) (fEq.set ⟨rfl, by omega, by omega⟩) h3 (fun a k h => h) (fun a k h => ⟨h.1, by omega, h.2.2⟩)
theorem em_takesLayer {σ : fm_M} {p : Nat} {x : Nat → Nat} (hp : p < 8) (hx : mRec σ 97 p x) (h0 : 0 < x 0) (h6 : x 0 ≤ 6) : ∃ σ', m_X12_takesLayer (nI p) σ = some (nI (x 4), σ') ∧ mRec σ' 97 p (rPop x) ∧ fEq (sP p) σ σ' := by
  have e0 : σ.1 97 (16 + 10 * p + 0) = nI (x 0) := hx 0 (by omega)
  have e4 : σ.1 97 (16 + 10 * p + 4) = nI (x 4) := hx 4 (by omega)
  unfold m_X12_takesLayer
  simp only [nu_lit]
  rw [em_of1 σ (by omega), nu_b, em_of1 σ (by omega), nu_b, e0, e4, nu_sub (by omega), em_lays1 σ (by omega), nu_b]
  obtain ⟨σ1, h1, h2, h3⟩ := em_takesLoop (fun (x1_y19 : Int32) (x2_y19 : Int32) (x3_y19 : Int32) (σ_y19 : fm_M) => some (x2_y19, σ_y19)) (v := nI (x 4)) (n := x 0 - 1) hp (by omega) (x 0 - 1) fm_fu 0 (fm_sI σ 97 (16 + 10 * p + 0) (nI (x 0 - 1))) (by have := nu_fu; omega) (by omega) (by rw [nu_sI, if_pos ⟨rfl, rfl⟩])
  rw [h1]
  refine ⟨σ1, rfl, fun f hf => ?_, ?_⟩
  · have hf : f < 4 + (x 0 - 1) := by simpa [rPop] using hf
    by_cases f0 : f = 0
    · subst f0
      rw [h3.1 _ _ (by omega), nu_sI, if_pos ⟨rfl, rfl⟩]; simp [rPop]
    · by_cases f3 : f < 4
      · rw [h3.1 _ _ (by omega), nu_sI, if_neg (by omega), hx f (by omega)]; simp [rPop, f0, f3]
      · rw [show 16 + 10 * p + f = 20 + 10 * p + (f - 4) by omega, h2 (f - 4) (by omega) (by omega), nu_sI, if_neg (by omega), show 20 + 10 * p + (f - 4 + 1) = 16 + 10 * p + (f + 1) by omega, hx (f + 1) (by omega)]
        simp [rPop, f0, f3]
  · exact fEq.tr (S1 := sP p) (fEq.set (S := sP p) ⟨rfl, by omega, by omega⟩) h3 (fun _ _ h => h) (fun a k h => ⟨h.1, by omega, by omega⟩)
-- what the kinds do, in the reference
theorem em_opensOf {σ : fm_M} {k p kd day : Nat} {x : Nat → Nat} (hk : k < 6) (hp : p < 8) (hx : mRec σ 97 p x) (hr : rOk x) (hkd : σ.1 97 (4 + 2 * k) = nI kd) (h6 : kd < 6) (hd : σ.1 97 0 = nI day) (hd2 : day < 2 ^ 20) : m_X12_opensOf (nI k) (nI p) σ = some (nI (kOpens kd day (x 0) (x 4)), σ) := by
  have e0 : σ.1 97 (16 + 10 * p + 0) = nI (x 0) := hx 0 (by omega)
  have h0 := hr.1
  unfold m_X12_opensOf
  simp only [nu_lit]
  rw [em_of1 σ (by omega), nu_b, em_get σ (by omega), nu_b, show 4 + 2 * k + 0 = 4 + 2 * k from rfl, hkd, e0]
  simp only [nu_eq (show kd < 2 ^ 30 by omega) (show 1 < 2 ^ 30 by decide), nu_eq (show kd < 2 ^ 30 by omega) (show 2 < 2 ^ 30 by decide), nu_eq (show kd < 2 ^ 30 by omega) (show 3 < 2 ^ 30 by decide), nu_eq (show kd < 2 ^ 30 by omega) (show 4 < 2 ^ 30 by decide), nu_eq (show kd < 2 ^ 30 by omega) (show 5 < 2 ^ 30 by decide), nu_eq (show x 0 < 2 ^ 30 by omega) (show 0 < 2 ^ 30 by decide)]
  unfold kOpens
  by_cases c1 : kd = 1
  · simp only [if_pos c1]
  · simp only [if_neg c1]
    by_cases c2 : kd = 2
    · simp only [if_pos c2]
      rw [em_less 2 (x 0) σ (by decide) (by omega), nu_b]
    · simp only [if_neg c2]
      by_cases c3 : kd = 3
      · simp only [if_pos c3]
        by_cases z : x 0 = 0
        · rw [if_pos z, if_pos (Or.inl z)]
        · have e4 : σ.1 97 (16 + 10 * p + 4) = nI (x 4) := hx 4 (by omega)
          have b4 := hr.2.2.2 0 (by omega)
          rw [if_neg z, em_of1 σ (by omega), nu_b, e4]
          simp only [nu_eq (show x 4 < 2 ^ 30 by simpa using Nat.lt_trans b4 (by decide)) (show 3 < 2 ^ 30 by decide)]
          by_cases z3 : x 4 = 3
          · rw [if_pos z3, if_pos (Or.inr z3)]
          · rw [if_neg z3, if_neg (fun h => h.elim z z3)]
      · simp only [if_neg c3]
        by_cases c4 : kd = 4
        · simp only [if_pos c4]
        · simp only [if_neg c4]
          by_cases c5 : kd = 5
          · simp only [if_pos c5]
            rw [nu_in (by decide) (by decide), nu_g, nu_cl (n := 0) (by omega), hd, nu_rem (by omega) (by decide) (by decide)]
            simp only [nu_eq (show day % 5 < 2 ^ 30 by omega) (show 0 < 2 ^ 30 by decide)]
            by_cases z : day % 5 = 0
            · rw [if_pos z, if_pos z, em_less 1 (x 0) σ (by decide) (by omega), nu_b]
            · rw [if_neg z, if_neg z]
          · simp only [if_neg c5]
            rw [em_less 1 (x 0) σ (by decide) (by omega), nu_b]
theorem em_enjoysOf {σ : fm_M} {k p kd : Nat} (hk : k < 6) (hp : p < 4) (hkd : σ.1 97 (4 + 2 * k) = nI kd) (h6 : kd < 6) : m_X12_enjoysOf (nI k) (nI p) σ = some (nI (kEnjoys kd p), σ) := by
  unfold m_X12_enjoysOf
  simp only [nu_lit]
  rw [em_get σ (by omega), nu_b, show 4 + 2 * k + 0 = 4 + 2 * k from rfl, hkd]
  simp only [nI_add, pk_mul, nu_eq (show kd < 2 ^ 30 by omega) (show 1 < 2 ^ 30 by decide), nu_eq (show kd < 2 ^ 30 by omega) (show 2 < 2 ^ 30 by decide), nu_eq (show kd < 2 ^ 30 by omega) (show 3 < 2 ^ 30 by decide), nu_eq (show kd < 2 ^ 30 by omega) (show 4 < 2 ^ 30 by decide), nu_eq (show kd < 2 ^ 30 by omega) (show 5 < 2 ^ 30 by decide), nu_eq (show p < 2 ^ 30 by omega) (show 0 < 2 ^ 30 by decide)]
  unfold kEnjoys
  repeat' split
  all_goals rfl
theorem em_struckOf {σ : fm_M} {k th kd : Nat} (hk : k < 6) (ht : th ≤ 99) (hkd : σ.1 97 (4 + 2 * k) = nI kd) (h6 : kd < 6) : m_X12_struckOf (nI k) (nI th) σ = some (nI (kStruck kd th), σ) := by
  unfold m_X12_struckOf
  simp only [nu_lit, nu_j]
  rw [em_get σ (by omega)]
  simp only [nu_b]
  rw [show 4 + 2 * k + 0 = 4 + 2 * k from rfl, hkd]
  simp only [nI_add, pk_mul, nu_div (show th < 2 ^ 30 by omega) (show 0 < 2 by decide) (show 2 < 2 ^ 30 by decide), nu_eq (show kd < 2 ^ 30 by omega) (show 1 < 2 ^ 30 by decide), nu_eq (show kd < 2 ^ 30 by omega) (show 2 < 2 ^ 30 by decide), nu_eq (show kd < 2 ^ 30 by omega) (show 3 < 2 ^ 30 by decide), nu_eq (show kd < 2 ^ 30 by omega) (show 4 < 2 ^ 30 by decide), nu_eq (show kd < 2 ^ 30 by omega) (show 5 < 2 ^ 30 by decide), nu_le (show th < 2 ^ 30 by omega) (show 0 < 2 ^ 30 by decide)]
  unfold kStruck
  by_cases z : th = 0
  · subst z
    simp only [Nat.le_refl, if_true]
    repeat' split
    all_goals rfl
  · rw [if_neg (show ¬ th ≤ 0 by omega)]
    simp only [if_neg z, Nat.zero_add]
    repeat' split
    all_goals rfl
/-- the reference answers -1 for no, else the paper -/
def mPass (v : Nat) : Int32 := if v = 0 then -nI 1 else nI (v - 1)
theorem em_passesOf {σ : fm_M} {k n kd day : Nat} (hk : k < 6) (hn : n ≤ 6) (hkd : σ.1 97 (4 + 2 * k) = nI kd) (h6 : kd < 6) (hd : σ.1 97 0 = nI day) (hd2 : day < 2 ^ 20) : m_X12_passesOf (nI k) (nI n) σ = some (mPass (kPass kd day n), σ) := by
  unfold m_X12_passesOf
  simp only [nu_lit]
  rw [nu_in (by decide) (by decide), nu_g, em_get σ (by omega), nu_b, nu_cl (n := 0) (by omega), hd, show 4 + 2 * k + 0 = 4 + 2 * k from rfl, hkd, nu_rem (by omega) (by decide) (by decide)]
  simp only [nu_eq (show kd < 2 ^ 30 by omega) (show 0 < 2 ^ 30 by decide), nu_eq (show kd < 2 ^ 30 by omega) (show 1 < 2 ^ 30 by decide), nu_eq (show kd < 2 ^ 30 by omega) (show 2 < 2 ^ 30 by decide), nu_eq (show kd < 2 ^ 30 by omega) (show 3 < 2 ^ 30 by decide), nu_eq (show kd < 2 ^ 30 by omega) (show 4 < 2 ^ 30 by decide), nu_eq (show kd < 2 ^ 30 by omega) (show 5 < 2 ^ 30 by decide), nu_lt (show n < 2 ^ 30 by omega) (show 4 < 2 ^ 30 by decide), nu_lt (show n < 2 ^ 30 by omega) (show 2 < 2 ^ 30 by decide), nu_eq (show n < 2 ^ 30 by omega) (show 6 < 2 ^ 30 by decide)]
  unfold kPass
  by_cases c0 : kd = 0
  · simp only [if_pos c0]
    split <;> simp [mPass]
  · simp only [if_neg c0]
    by_cases c1 : kd = 1
    · simp only [if_pos c1]
      split <;> simp [mPass]
    · simp only [if_neg c1]
      by_cases c2 : kd = 2
      · simp only [if_pos c2]; simp [mPass]
      · simp only [if_neg c2]
        by_cases c3 : kd = 3
        · simp only [if_pos c3]
          rw [em_in1]
          simp only [nu_le (show 1 < 2 ^ 30 by decide) (show n < 2 ^ 30 by omega), nu_le (show n < 2 ^ 30 by omega) (show 3 < 2 ^ 30 by decide)]
          by_cases z : 1 ≤ n ∧ n ≤ 3
          · rw [if_pos z, if_pos z, nu_b, if_neg (show ¬ nI 1 = nI 0 by decide)]; rfl
          · rw [if_neg z, if_neg z, nu_b, if_pos rfl]; rfl
        · simp only [if_neg c3]
          by_cases c4 : kd = 4
          · simp only [if_pos c4]; simp [mPass]
          · simp only [if_neg c4]
            by_cases c5 : kd = 5
            · simp only [if_pos c5]
              split <;> simp [mPass]
            · simp only [if_neg c5]; simp [mPass]
def sJ (k : Nat) : Nat → Nat → Prop := fun a i => a = 97 ∧ i = 5 + 2 * k
theorem em_enjoys {σ : fm_M} {k j v : Nat} (hk : k < 6) (hj : σ.1 97 (5 + 2 * k) = nI j) (hj2 : j ≤ 9999) (hv : v < 2 ^ 20) : m_X12_enjoys (nI k) (nI v) σ = some ((), fm_sI σ 97 (5 + 2 * k) (nI (min 9999 (j + v)))) := by
  unfold m_X12_enjoys
  simp only [nu_lit]
  rw [em_get σ (by omega), nu_b, show 4 + 2 * k + 1 = 5 + 2 * k by omega, hj, nI_add, em_less 9999 (j + v) σ (by decide) (by omega), nu_b, em_puts σ (by omega), nu_b, show 4 + 2 * k + 1 = 5 + 2 * k by omega]
