/-! A PRESENT as a row of numbers: 0 layers, 1 thing, 2 with whom, 3 found, 4 and on its papers, the outermost first -/
def rPush (p : Nat) (x : Nat → Nat) : Nat → Nat := fun k => if k = 0 then x 0 + 1 else if k < 4 then x k else if k = 4 then p else x (k - 1)
def rPop (x : Nat → Nat) : Nat → Nat := fun k => if k = 0 then x 0 - 1 else if k < 4 then x k else x (k + 1)
def rSet (x : Nat → Nat) (f v : Nat) : Nat → Nat := fun k => if k = f then v else x k
def rOk (x : Nat → Nat) : Prop := x 0 ≤ 6 ∧ x 1 ≤ 99 ∧ x 3 ≤ 1 ∧ ∀ i, i < x 0 → x (4 + i) < 4
-- the kinds
def kOpens (kd day n p : Nat) : Nat := if kd = 1 then 0 else if kd = 2 then min 2 n else if kd = 3 then (if n = 0 ∨ p = 3 then 0 else 1) else if kd = 4 then n else if kd = 5 then (if day % 5 = 0 then min 1 n else 0) else min 1 n
def kEnjoys (kd p : Nat) : Nat := if kd = 1 then 2 * p + 2 else if kd = 2 then p else if kd = 3 then (if p = 0 then 6 else p + 1) else if kd = 4 then 0 else if kd = 5 then 2 * p + 1 else p + 1
def kStruck (kd th : Nat) : Nat := if kd = 1 then (if th = 0 then 5 else 0) else if kd = 2 then 2 * th else if kd = 3 then th else if kd = 4 then 2 * th + 10 else if kd = 5 then (if th = 0 then 5 else 0) + th / 2 else th
/-- 0: it doesn't pass it on; else the paper and 1 -/
def kPass (kd day n : Nat) : Nat := if kd = 0 then (if n < 4 then 0 else day % 4 + 1) else if kd = 1 then (if n = 6 then day % 4 + 1 else 0) else if kd = 2 then 0 else if kd = 3 then (if 1 ≤ n ∧ n ≤ 3 then 1 else 0) else if kd = 4 then 0 else if kd = 5 then (if n < 2 then 0 else day % 4 + 1) else 0
theorem kOpens_le (kd day n p : Nat) : kOpens kd day n p ≤ n := by
  unfold kOpens
  repeat' split
  all_goals omega
theorem kEnjoys_le {kd p : Nat} (h : p < 4) : kEnjoys kd p ≤ 8 := by
  unfold kEnjoys
  repeat' split
  all_goals omega
theorem kStruck_le {kd th : Nat} (h : th ≤ 99) : kStruck kd th ≤ 300 := by
  unfold kStruck
  repeat' split
  all_goals omega
theorem kPass_le (kd day n : Nat) : kPass kd day n ≤ 4 := by
  unfold kPass
  repeat' split
  all_goals omega
-- a turn: the present and the joy of the one
def oneOpen (kd : Nat) : Nat → (Nat → Nat) × Nat → (Nat → Nat) × Nat
  | 0, q => q
  | m + 1, q => oneOpen kd m (rPop q.1, min 9999 (q.2 + kEnjoys kd (q.1 4)))
def tEnd (kd : Nat) (q : (Nat → Nat) × Nat) : (Nat → Nat) × Nat := if q.1 0 = 0 then (rSet q.1 3 1, min 9999 (q.2 + kStruck kd (q.1 1))) else q
def tOpen (kd day : Nat) (q : (Nat → Nat) × Nat) : (Nat → Nat) × Nat := tEnd kd (oneOpen kd (kOpens kd day (q.1 0) (q.1 4)) q)
def tGive (kd day np k : Nat) (x : Nat → Nat) : Nat → Nat := rSet (if x 0 < 6 then rPush (kPass kd day (x 0) - 1) x else x) 2 (if k + 1 < np then k + 1 else 0)
def tTurn (kd day np k : Nat) (q : (Nat → Nat) × Nat) : (Nat → Nat) × Nat := if kPass kd day (q.1 0) = 0 ∨ np < 2 then tOpen kd day q else (tGive kd day np k q.1, q.2)
theorem rPop_ok {x : Nat → Nat} (h : rOk x) (h0 : 0 < x 0) : rOk (rPop x) := by
  obtain ⟨h1, h2, h3, h4⟩ := h
  refine ⟨by simp [rPop]; omega, by simp [rPop]; omega, by simp [rPop]; omega, fun i hi => ?_⟩
  have hi : i < x 0 - 1 := by simpa [rPop] using hi
  have : rPop x (4 + i) = x (4 + (i + 1)) := by
    unfold rPop
    rw [if_neg (by omega), if_neg (by omega)]
    rfl
  rw [this]
  exact h4 (i + 1) (by omega)
theorem rPush_ok {x : Nat → Nat} {p : Nat} (h : rOk x) (h0 : x 0 < 6) (hp : p < 4) : rOk (rPush p x) := by
  obtain ⟨h1, h2, h3, h4⟩ := h
  refine ⟨by simp [rPush]; omega, by simp [rPush]; omega, by simp [rPush]; omega, fun i hi => ?_⟩
  have hi : i < x 0 + 1 := by simpa [rPush] using hi
  by_cases e : i = 0
  · subst e; simpa [rPush] using hp
  · have : rPush p x (4 + i) = x (4 + (i - 1)) := by
      unfold rPush
      rw [if_neg (by omega), if_neg (by omega), if_neg (by omega)]
      congr 1; omega
    rw [this]
    exact h4 (i - 1) (by omega)
theorem rSet_ok2 {x : Nat → Nat} {v : Nat} (h : rOk x) : rOk (rSet x 2 v) := by
  obtain ⟨h1, h2, h3, h4⟩ := h
  refine ⟨by simp [rSet]; omega, by simp [rSet]; omega, by simp [rSet]; omega, fun i hi => ?_⟩
  have hi : i < x 0 := by simpa [rSet] using hi
  have : rSet x 2 v (4 + i) = x (4 + i) := by simp [rSet]; omega
  rw [this]
  exact h4 i hi
theorem rSet_ok3 {x : Nat → Nat} (h : rOk x) : rOk (rSet x 3 1) := by
  obtain ⟨h1, h2, h3, h4⟩ := h
  refine ⟨by simp [rSet]; omega, by simp [rSet]; omega, by simp [rSet], fun i hi => ?_⟩
  have hi : i < x 0 := by simpa [rSet] using hi
  have : rSet x 3 1 (4 + i) = x (4 + i) := by simp [rSet]; omega
  rw [this]
  exact h4 i hi
theorem oneOpen_ok (kd : Nat) : ∀ (m : Nat) (q : (Nat → Nat) × Nat), rOk q.1 → m ≤ q.1 0 → q.2 ≤ 9999 → rOk (oneOpen kd m q).1 ∧ (oneOpen kd m q).2 ≤ 9999 ∧ (oneOpen kd m q).1 0 = q.1 0 - m ∧ (oneOpen kd m q).1 1 = q.1 1 ∧ (oneOpen kd m q).1 2 = q.1 2 ∧ (oneOpen kd m q).1 3 = q.1 3
  | 0, q, h, _, hj => ⟨h, hj, rfl, rfl, rfl, rfl⟩
  | m + 1, q, h, hm, hj => by
    rw [oneOpen]
    have ih := oneOpen_ok kd m (rPop q.1, min 9999 (q.2 + kEnjoys kd (q.1 4))) (rPop_ok h (by omega)) (by simp [rPop]; omega) (Nat.min_le_left _ _)
    obtain ⟨i1, i2, i3, i4, i5, i6⟩ := ih
    refine ⟨i1, i2, ?_, ?_, ?_, ?_⟩
    · rw [i3]; simp [rPop]; omega
    · rw [i4]; simp [rPop]
    · rw [i5]; simp [rPop]
    · rw [i6]; simp [rPop]
theorem tTurn_ok {kd day np k : Nat} {q : (Nat → Nat) × Nat} (h : rOk q.1) (hj : q.2 ≤ 9999) (hk : k < np) (hw : q.1 2 = k) : rOk (tTurn kd day np k q).1 ∧ (tTurn kd day np k q).2 ≤ 9999 ∧ (tTurn kd day np k q).1 2 < np := by
  unfold tTurn
  split
  · unfold tOpen
    obtain ⟨i1, i2, i3, i4, i5, i6⟩ := oneOpen_ok kd (kOpens kd day (q.1 0) (q.1 4)) q h (kOpens_le _ _ _ _) hj
    unfold tEnd
    split
    · refine ⟨rSet_ok3 i1, Nat.min_le_left _ _, ?_⟩
      simp only [rSet]
      rw [if_neg (by decide), i5, hw]; exact hk
    · exact ⟨i1, i2, by rw [i5, hw]; exact hk⟩
  · rename_i hp
    unfold tGive
    refine ⟨rSet_ok2 ?_, hj, ?_⟩
    · split
      · exact rPush_ok h (by assumption) (by have := kPass_le kd day (q.1 0); omega)
      · exact h
    · simp only [rSet, if_true]
      split <;> omega
/-! what a memory holds of a present, in the reference -/
def mRec (σ : fm_M) (c p : Nat) (x : Nat → Nat) : Prop := ∀ f, f < 4 + x 0 → σ.1 c (16 + 10 * p + f) = nI (x f)
/-- nothing else has changed than what S names -/
def fEq (S : Nat → Nat → Prop) (σ σ' : fm_M) : Prop := (∀ a k, ¬ S a k → σ'.1 a k = σ.1 a k) ∧ σ'.2 = σ.2
theorem fEq.rf {S : Nat → Nat → Prop} {σ : fm_M} : fEq S σ σ := ⟨fun _ _ _ => rfl, rfl⟩
theorem fEq.tr {S S1 S2 : Nat → Nat → Prop} {σ σ1 σ2 : fm_M} (h1 : fEq S1 σ σ1) (h2 : fEq S2 σ1 σ2) (i1 : ∀ a k, S1 a k → S a k) (i2 : ∀ a k, S2 a k → S a k) : fEq S σ σ2 := ⟨fun a k h => (h2.1 a k (fun z => h (i2 a k z))).trans (h1.1 a k (fun z => h (i1 a k z))), h2.2.trans h1.2⟩
theorem fEq.mono {S S1 : Nat → Nat → Prop} {σ σ' : fm_M} (h : fEq S1 σ σ') (i : ∀ a k, S1 a k → S a k) : fEq S σ σ' := ⟨fun a k z => h.1 a k (fun y => z (i a k y)), h.2⟩
theorem fEq.set {S : Nat → Nat → Prop} {σ : fm_M} {i k : Nat} {v : Int32} (h : S i k) : fEq S σ (fm_sI σ i k v) := ⟨fun a c z => by rw [nu_sI, if_neg (fun y => z (by rw [y.1, y.2]; exact h))], rfl⟩
def sP (p : Nat) : Nat → Nat → Prop := fun a k => a = 97 ∧ 16 + 10 * p ≤ k ∧ k < 26 + 10 * p
theorem nu_m1 (i : Nat) : nI (i + 1) + -nI 1 = nI i := pk_m1 i
theorem em_addsLoop (kc : Int32 → Int32 → Int32 → fm_M → Option (Unit × fm_M)) {p : Nat} {q : Int32} (hp : p < 8) : ∀ (i fuel : Nat) (σ : fm_M), i < fuel → i ≤ 5 → ∃ σ', m_X12_addsLayer_7 kc fuel (nI p) q (nI i) σ = kc (nI p) q (nI 0) σ' ∧ (∀ k, 1 ≤ k → k ≤ i → σ'.1 97 (20 + 10 * p + k) = σ.1 97 (20 + 10 * p + (k - 1))) ∧ fEq (fun a k => a = 97 ∧ 20 + 10 * p + 1 ≤ k ∧ k ≤ 20 + 10 * p + i) σ σ' := by
  intro i
  induction i with
  | zero =>
    intro fuel σ hf hi
    obtain ⟨n, rfl⟩ : ∃ n, fuel = n + 1 := ⟨fuel - 1, by omega⟩
    refine ⟨σ, ?_, fun k h1 h2 => by omega, fEq.rf⟩
    rw [m_X12_addsLayer_7, if_pos (show nI 0 ≤ 0 by decide)]
  | succ i ih =>
    intro fuel σ hf hi
    obtain ⟨n, rfl⟩ : ∃ n, fuel = n + 1 := ⟨fuel - 1, by omega⟩
    obtain ⟨σ', h1, h2, h3⟩ := ih n (fm_sI σ 97 (16 + 10 * p + (4 + (i + 1))) (σ.1 97 (16 + 10 * p + (4 + i)))) (by omega) (by omega)
    refine ⟨σ', ?_, fun k k1 k2 => ?_, ?_⟩
    · rw [m_X12_addsLayer_7, if_neg (nI_nle (by omega) (by omega))]
      simp only [nu_lit, nI_add]
      rw [nu_sub (by omega), show 4 + (i + 1) - 1 = 4 + i by omega, em_of1 σ (by omega), nu_b, em_lays1 σ (by omega), nu_b, nu_m1]
      exact h1
    · by_cases e : k = i + 1
      · subst e
        rw [h3.1 97 _ (by omega), nu_sI, if_pos ⟨rfl, by omega⟩, show 20 + 10 * p + (i + 1 - 1) = 16 + 10 * p + (4 + i) by omega]
      · rw [h2 k k1 (by omega), nu_sI, if_neg (by omega)]
    · refine fEq.tr (S1 := fun a k => a = 97 ∧ 20 + 10 * p + 1 ≤ k ∧ k ≤ 20 + 10 * p + (i + 1)) (fEq.set ⟨rfl, by omega, by omega⟩) h3 (fun a k h => h) (fun a k h => ⟨h.1, h.2.1, by omega⟩)
theorem em_addsLayer {σ : fm_M} {p q : Nat} {x : Nat → Nat} (hp : p < 8) (hx : mRec σ 97 p x) (h6 : x 0 < 6) : ∃ σ', m_X12_addsLayer (nI p) (nI q) σ = some ((), σ') ∧ mRec σ' 97 p (rPush q x) ∧ fEq (sP p) σ σ' := by
  have e0 : σ.1 97 (16 + 10 * p + 0) = nI (x 0) := hx 0 (by omega)
  unfold m_X12_addsLayer
  simp only [nu_lit]
  rw [em_of1 σ (by omega), nu_b, e0]
  obtain ⟨σ1, h1, h2, h3⟩ := em_addsLoop (fun (x1_y10 : Int32) (x2_y10 : Int32) (x3_y10 : Int32) (σ_y10 : fm_M) => fm_b (m_X12_lays1 x1_y10 (nI 4) x2_y10 σ_y10) fun _u11 σ12 => (fm_b (m_X12_of1 x1_y10 (nI 0) σ12) fun r14 σ15 => (fm_b (m_X12_lays1 x1_y10 (nI 0) (r14 + nI 1) σ15) fun _u17 σ18 => (some ((), σ18))))) (q := nI q) hp (x 0) fm_fu σ (by have := nu_fu; omega) (by omega)
  rw [h1, em_lays1 σ1 (by omega), nu_b, em_of1 _ (by omega), nu_b, em_lays1 _ (by omega), nu_b]
  have e1 : (fm_sI σ1 97 (16 + 10 * p + 4) (nI q)).1 97 (16 + 10 * p + 0) = nI (x 0) := by
    rw [nu_sI, if_neg (by omega), h3.1 _ _ (by omega), e0]
  rw [e1, nI_add]
  refine ⟨_, rfl, fun f hf => ?_, ?_⟩
  · have hf : f < 4 + (x 0 + 1) := by simpa [rPush] using hf
    rw [nu_sI]
    by_cases f0 : f = 0
    · subst f0; rw [if_pos ⟨rfl, rfl⟩]; simp [rPush]
    · rw [if_neg (by omega), nu_sI]
      by_cases f4 : f = 4
      · subst f4; rw [if_pos ⟨rfl, rfl⟩]; simp [rPush]
      · rw [if_neg (by omega)]
        by_cases f3 : f < 4
        · rw [h3.1 _ _ (by omega), hx f (by omega)]; simp [rPush, f0, f3]
        · have := h2 (f - 4) (by omega) (by omega)
          rw [show 16 + 10 * p + f = 20 + 10 * p + (f - 4) by omega, this, show 20 + 10 * p + (f - 4 - 1) = 16 + 10 * p + (f - 1) by omega, hx (f - 1) (by omega)]
          simp [rPush, f0, f3, f4]
  · refine fEq.tr (S1 := sP p) (fEq.tr (S1 := sP p) (h3.mono (fun a k h => ⟨h.1, by omega, by omega⟩)) (fEq.set (S := sP p) ⟨rfl, by omega, by omega⟩) (fun _ _ h => h) (fun _ _ h => h)) (fEq.set (S := sP p) ⟨rfl, by omega, by omega⟩) (fun _ _ h => h) (fun _ _ h => h)
