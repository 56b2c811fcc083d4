/-! THE PURE PART: numbers -/
theorem nu_lit (n : Nat) : (OfNat.ofNat n : Int32) = nI n := id rfl
theorem nu_in {n N : Nat} (h : n < N) (hN : N ≤ 2 ^ 30) : fm_in1 (nI n) N = true := by
  have h1 : (nI n).toNatClampNeg = n := nI_clamp (by omega)
  have h2 : ¬ nI n < 0 := nI_pos (by omega)
  simp only [fm_in1, decide_eq_true_eq, h1]
  intro h3
  rcases h3 with h3 | h3
  · exact h2 h3
  · omega
theorem nu_cl {n : Nat} (h : n < 2 ^ 30) : (nI n).toNatClampNeg = n := nI_clamp (by omega)
theorem nu_lt {a b : Nat} (ha : a < 2 ^ 30) (hb : b < 2 ^ 30) : (nI a < nI b) = (a < b) := propext (nI_ltI (by omega) (by omega))
theorem nu_le {a b : Nat} (ha : a < 2 ^ 30) (hb : b < 2 ^ 30) : (nI a ≤ nI b) = (a ≤ b) := propext (nI_leI (by omega) (by omega))
theorem nu_eq {a b : Nat} (ha : a < 2 ^ 30) (hb : b < 2 ^ 30) : (nI a = nI b) = (a = b) := propext (nI_eq (by omega) (by omega))
theorem nu_sub {a b : Nat} (h : b ≤ a) : nI a - nI b = nI (a - b) := pk_sub h
theorem nu_ng (a : Nat) : nI (a + 1) + (-1) = nI a := pk_m1 a
theorem nu_div {a d : Nat} (ha : a < 2 ^ 30) (h0 : 0 < d) (hd : d < 2 ^ 30) : nI a / nI d = nI (a / d) := pk_div (by omega) h0 (by omega)
theorem nu_rem {a d : Nat} (ha : a < 2 ^ 30) (h0 : 0 < d) (hd : d < 2 ^ 30) : nI a - nI a / nI d * nI d = nI (a % d) := pk_rem (by omega) h0 (by omega)
theorem nu_g {β : Type} {x : Option β} : fm_g true x = x := rfl
theorem nu_let {α β : Type} {x : α} {f : α → Option β} : fm_let x f = f x := rfl
theorem nu_j {κ β : Type} {K : κ} {f : κ → Option β} : fm_j K f = f K := rfl
theorem nu_b {α β : Type} {r : α} {σ : fm_M} {f : α → fm_M → Option β} : fm_b (some (r, σ)) f = f r σ := rfl
theorem nu_sI {σ : fm_M} {i k : Nat} {v : Int32} {a c : Nat} : (fm_sI σ i k v).1 a c = if a = i ∧ c = k then v else σ.1 a c := by
  unfold fm_sI upd
  by_cases h : a = i
  · by_cases h2 : c = k <;> simp [h, h2]
  · simp [h]
theorem nu_sI2 {σ : fm_M} {i k : Nat} {v : Int32} : (fm_sI σ i k v).2 = σ.2 := rfl
theorem nu_sL {σ : fm_M} {i k : Nat} {v : Int64} {a c : Nat} : (fm_sL σ i k v).2 a c = if a = i ∧ c = k then v else σ.2 a c := by
  unfold fm_sL vp_updL
  by_cases h : a = i
  · by_cases h2 : c = k <;> simp [h, h2]
  · simp [h]
theorem nu_sL1 {σ : fm_M} {i k : Nat} {v : Int64} : (fm_sL σ i k v).1 = σ.1 := rfl
theorem nu_bz0 : fm_bz (nI 0) = true := by decide
theorem nu_bz1 : fm_bz (nI 1) = true := by decide
theorem nu_fu : 90000 ≤ fm_fu := by decide
/-- any number, against a bound -/
theorem nu_ix (x : Int32) {n : Nat} (hn : n < 2 ^ 30) : (∃ j, j < n ∧ x = nI j) ∨ (x < 0 ∨ nI n ≤ x) := by
  rcases pk_ix x (n := n) (by omega) with h | h | h
  · exact Or.inr (Or.inl h)
  · exact Or.inr (Or.inr h)
  · exact Or.inl h
-- a first place
def tf (p : Nat → Bool) : Nat → Nat → Nat
  | 0, i => i
  | n + 1, i => if p i then i else tf p n (i + 1)
def lf (p : Nat → Bool) (n : Nat) : Nat := tf p n 0
theorem tf_ge (p : Nat → Bool) : ∀ n i, i ≤ tf p n i
  | 0, i => Nat.le_refl i
  | n + 1, i => by
    rw [tf]
    split
    · exact Nat.le_refl i
    · exact Nat.le_trans (Nat.le_succ i) (tf_ge p n (i + 1))
theorem tf_le (p : Nat → Bool) : ∀ n i, tf p n i ≤ i + n
  | 0, i => Nat.le_refl i
  | n + 1, i => by
    rw [tf]
    split
    · omega
    · have := tf_le p n (i + 1); omega
theorem tf_no (p : Nat → Bool) : ∀ n i j, i ≤ j → j < tf p n i → p j = false
  | 0, i, j, h1, h2 => by rw [tf] at h2; omega
  | n + 1, i, j, h1, h2 => by
    rw [tf] at h2
    split at h2
    · omega
    · rename_i h
      by_cases e : j = i
      · subst e; simpa using h
      · exact tf_no p n (i + 1) j (by omega) h2
theorem tf_yes (p : Nat → Bool) : ∀ n i, tf p n i < i + n → p (tf p n i) = true
  | 0, i, h => by rw [tf] at h; omega
  | n + 1, i, h => by
    rw [tf] at h ⊢
    split
    · assumption
    · rename_i h1
      rw [if_neg h1] at h
      exact tf_yes p n (i + 1) (by omega)
theorem lf_le (p : Nat → Bool) (n : Nat) : lf p n ≤ n := by have := tf_le p n 0; unfold lf; omega
theorem lf_no {p : Nat → Bool} {n j : Nat} (h : j < lf p n) : p j = false := tf_no p n 0 j (Nat.zero_le j) h
theorem lf_yes {p : Nat → Bool} {n : Nat} (h : lf p n < n) : p (lf p n) = true := tf_yes p n 0 (by unfold lf at h; omega)
theorem lf_eq {p : Nat → Bool} {n g : Nat} (hg : g < n) (hp : p g = true) (hn : ∀ j, j < g → p j = false) : lf p n = g := by
  rcases Nat.lt_trichotomy (lf p n) g with h | h | h
  · have h1 := lf_yes (p := p) (n := n) (by omega)
    rw [hn _ h] at h1; cases h1
  · exact h
  · have h1 := lf_no h
    rw [hp] at h1; cases h1
theorem lf_all {p : Nat → Bool} {n : Nat} (hn : ∀ j, j < n → p j = false) : lf p n = n := by
  rcases Nat.lt_or_ge (lf p n) n with h | h
  · have h1 := lf_yes h
    rw [hn _ h] at h1; cases h1
  · exact Nat.le_antisymm (lf_le p n) h
theorem lf_cong {p q : Nat → Bool} {n : Nat} (h : ∀ j, j < n → p j = q j) : lf p n = lf q n := by
  rcases Nat.lt_or_ge (lf p n) n with h1 | h1
  · exact (lf_eq h1 (by rw [← h _ h1]; exact lf_yes h1) (fun j hj => by rw [← h j (by omega)]; exact lf_no hj)).symm
  · have h2 : lf p n = n := Nat.le_antisymm (lf_le p n) h1
    rw [h2]
    exact (lf_all (fun j hj => by rw [← h j hj]; exact lf_no (n := n) (by omega))).symm
/-! the reference's smallest parts -/
theorem em_in1 (x a b : Int32) (σ : fm_M) : m_X12_in1 x a b σ = some (if a ≤ x ∧ x ≤ b then nI 1 else nI 0, σ) := by
  unfold m_X12_in1
  by_cases h1 : x < a
  · rw [if_pos h1, if_neg (fun h => by have := h.1; exact absurd h1 (Int32.not_lt.mpr this))]; rfl
  · rw [if_neg h1]
    by_cases h2 : b < x
    · rw [if_pos h2, if_neg (fun h => absurd h2 (Int32.not_lt.mpr h.2))]; rfl
    · rw [if_neg h2, if_pos ⟨Int32.not_lt.mp h1, Int32.not_lt.mp h2⟩]; rfl
theorem em_in1T {j a b : Nat} (σ : fm_M) (h1 : a ≤ j) (h2 : j ≤ b) (hb : b < 2 ^ 30) : m_X12_in1 (nI j) (nI a) (nI b) σ = some (nI 1, σ) := by
  rw [em_in1, if_pos]
  rw [nu_le (by omega) (by omega), nu_le (by omega) (by omega)]
  exact ⟨h1, h2⟩
theorem em_less (a b : Nat) (σ : fm_M) (ha : a < 2 ^ 30) (hb : b < 2 ^ 30) : m_X12_less (nI a) (nI b) σ = some (nI (min a b), σ) := by
  unfold m_X12_less
  simp only [nu_le hb ha]
  by_cases h : b ≤ a
  · rw [if_pos h, Nat.min_eq_right h]
  · rw [if_neg h, Nat.min_eq_left (by omega)]
theorem em_get {k f : Nat} (σ : fm_M) (h : 4 + 2 * k + f < 96) : m_X12_get (nI k) (nI f) σ = some (σ.1 97 (4 + 2 * k + f), σ) := by
  unfold m_X12_get
  simp only [nu_lit, pk_mul, nI_add]
  rw [nu_in h (by decide), nu_g, nu_cl (by omega)]
theorem em_puts {k f : Nat} {v : Int32} (σ : fm_M) (h : 4 + 2 * k + f < 96) : m_X12_puts (nI k) (nI f) v σ = some ((), fm_sI σ 97 (4 + 2 * k + f) v) := by
  unfold m_X12_puts
  simp only [nu_lit, pk_mul, nI_add]
  rw [nu_in h (by decide), nu_g, nu_cl (by omega), nu_let]
theorem em_of1 {p f : Nat} (σ : fm_M) (h : 16 + 10 * p + f < 96) : m_X12_of1 (nI p) (nI f) σ = some (σ.1 97 (16 + 10 * p + f), σ) := by
  unfold m_X12_of1
  simp only [nu_lit, pk_mul, nI_add]
  rw [nu_in h (by decide), nu_g, nu_cl (by omega)]
theorem em_lays1 {p f : Nat} {v : Int32} (σ : fm_M) (h : 16 + 10 * p + f < 96) : m_X12_lays1 (nI p) (nI f) v σ = some ((), fm_sI σ 97 (16 + 10 * p + f) v) := by
  unfold m_X12_lays1
  simp only [nu_lit, pk_mul, nI_add]
  rw [nu_in h (by decide), nu_g, nu_cl (by omega), nu_let]
