/-! tokens: the reference's side -/
theorem lgLE (x y : Int64) : (lg_cmp x y ≤ nI 0) ↔ x ≤ y := lg_cmp_le x y
theorem lgEQ (x y : Int64) : (lg_cmp x y = nI 0) ↔ x = y := lg_cmp_eq x y
def fE2 (S : Nat → Nat → Prop) (σ σ' : fm_M) : Prop := (∀ a k, ¬ S a k → σ'.1 a k = σ.1 a k) ∧ ∀ a k, ¬ (a = 96 ∧ k = 12) → σ'.2 a k = σ.2 a k
theorem fE2.rf {S : Nat → Nat → Prop} {σ : fm_M} : fE2 S σ σ := ⟨fun _ _ _ => rfl, fun _ _ _ => rfl⟩
theorem fE2.tr {S S1 S2 : Nat → Nat → Prop} {σ σ1 σ2 : fm_M} (h1 : fE2 S1 σ σ1) (h2 : fE2 S2 σ1 σ2) (i1 : ∀ a k, S1 a k → S a k) (i2 : ∀ a k, S2 a k → S a k) : fE2 S σ σ2 := ⟨fun a k h => (h2.1 a k (fun z => h (i2 a k z))).trans (h1.1 a k (fun z => h (i1 a k z))), fun a k h => (h2.2 a k h).trans (h1.2 a k h)⟩
theorem fE2.mono {S S1 : Nat → Nat → Prop} {σ σ' : fm_M} (h : fE2 S1 σ σ') (i : ∀ a k, S1 a k → S a k) : fE2 S σ σ' := ⟨fun a k z => h.1 a k (fun y => z (i a k y)), h.2⟩
theorem fE2.of {S : Nat → Nat → Prop} {σ σ' : fm_M} (h : fEq S σ σ') : fE2 S σ σ' := ⟨h.1, fun a k _ => by rw [h.2]⟩
theorem fE2.setL {S : Nat → Nat → Prop} {σ : fm_M} {v : Int64} : fE2 S σ (fm_sL σ 96 12 v) := ⟨fun _ _ _ => rfl, fun a k h => by rw [nu_sL, if_neg h]⟩
theorem em_skip {bt : Nat → Nat} {n : Nat} (hb : btOk bt n) : ∀ (m fuel i : Nat) (σ : fm_M), m < fuel → i + m = n → tpM σ bt n → σ.1 96 10 = nI i → ∃ σ', (∀ kc : fm_M → Option (Unit × fm_M), m_X12_nextToken_8 kc fuel σ = kc σ') ∧ σ'.1 96 10 = nI (tf (nb bt) m i) ∧ fEq (fun a k => a = 96 ∧ k = 10) σ σ' := by
  intro m
  induction m with
  | zero =>
    intro fuel i σ hf hi ht h2
    obtain ⟨f, rfl⟩ : ∃ f, fuel = f + 1 := ⟨fuel - 1, by omega⟩
    refine ⟨σ, ?_, h2, fEq.rf⟩
    have := hb.1
    intro kc
    rw [m_X12_nextToken_8, ht.1, h2, if_pos (by rw [nu_le (by omega) (by omega)]; omega)]
  | succ m ih =>
    intro fuel i σ hf hi ht h2
    obtain ⟨f, rfl⟩ : ∃ f, fuel = f + 1 := ⟨fuel - 1, by omega⟩
    have hn := hb.1
    have hi' := hb.2 i (by omega)
    by_cases z : bt i = 32
    · obtain ⟨σ', v1, v2, v3⟩ := ih f (i + 1) (fm_sI σ 96 10 (nI (i + 1))) (by omega) (by omega) (ht.keep (by rw [nu_sI, if_neg (by omega)]) (fun k => by rw [nu_sI, if_neg (by omega)])) (by rw [nu_sI, if_pos ⟨rfl, rfl⟩])
      have tb : ¬ nb bt i = true := by simp [nb, z]
      rw [tf, if_neg tb]
      refine ⟨σ', ?_, v2, fEq.tr (S := fun a k => a = 96 ∧ k = 10) (fEq.set (S := fun a k => a = 96 ∧ k = 10) ⟨rfl, rfl⟩) v3 (fun _ _ z => z) (fun _ _ z => z)⟩
      intro kc
      rw [m_X12_nextToken_8]
      simp only [nu_lit]
      rw [ht.1, h2, if_neg (by rw [nu_le (by omega) (by omega)]; omega), nu_in (by omega) (by decide), nu_g, nu_cl (by omega), ht.2 i (by omega), if_pos (by rw [z]), nI_add, nu_let]
      exact v1 kc
    · have tb : nb bt i = true := by simp [nb, z]
      rw [tf, if_pos tb]
      refine ⟨σ, ?_, h2, fEq.rf⟩
      intro kc
      rw [m_X12_nextToken_8]
      simp only [nu_lit]
      rw [ht.1, h2, if_neg (by rw [nu_le (by omega) (by omega)]; omega), nu_in (by omega) (by decide), nu_g, nu_cl (by omega), ht.2 i (by omega), if_neg (by rw [nu_eq (by omega) (by decide)]; exact z)]
-- a word as a number: whole, and as the reference has it
def hv (f : Nat → Nat) (s : Nat) : Nat → Nat
  | 0 => 0
  | l + 1 => hv f s l * 27 + (f (s + l) - 96)
def mvW (f : Nat → Nat) (s : Nat) : Nat → Nat
  | 0 => 0
  | l + 1 => if 9999999999999 < mvW f s l then mvW f s l else mvW f s l * 27 + (f (s + l) - 96)
def cwN (w : Nat) : Nat := hv (ch w) 0 (tl w)
theorem cwN_le : ∀ w, w < 12 → cwN w ≤ 9999999999999 := by decide +kernel
theorem mvW_le {f : Nat → Nat} {s : Nat} : ∀ (l : Nat), (∀ i, i < l → f (s + i) ≤ 122) → mvW f s l ≤ 300000000000000
  | 0, _ => by rw [mvW]; omega
  | l + 1, h => by
    have h1 := mvW_le l (fun i hi => h i (by omega))
    have h2 := h l (by omega)
    rw [mvW]
    split <;> omega
theorem mvW_hv (f : Nat → Nat) (s : Nat) : ∀ (l : Nat), mvW f s l = hv f s l ∨ (9999999999999 < mvW f s l ∧ 9999999999999 < hv f s l)
  | 0 => Or.inl rfl
  | l + 1 => by
    have h1 := mvW_hv f s l
    rw [mvW, hv]
    by_cases z : 9999999999999 < mvW f s l
    · rw [if_pos z]
      exact Or.inr ⟨z, by omega⟩
    · rw [if_neg z]
      exact Or.inl (by omega)
theorem hv_inj {f g : Nat → Nat} {s t : Nat} : ∀ (k j : Nat), (∀ i, i < k → 97 ≤ f (s + i) ∧ f (s + i) ≤ 122) → (∀ i, i < j → 97 ≤ g (t + i) ∧ g (t + i) ≤ 122) → hv f s k = hv g t j → k = j ∧ ∀ i, i < k → f (s + i) = g (t + i)
  | 0, 0, _, _, _ => ⟨rfl, fun i hi => by omega⟩
  | 0, j + 1, _, hg, h => by
    have := hg j (by omega)
    rw [hv, hv] at h
    omega
  | k + 1, 0, hf, _, h => by
    have := hf k (by omega)
    rw [hv, hv] at h
    omega
  | k + 1, j + 1, hf, hg, h => by
    have a1 := hf k (by omega)
    have a2 := hg j (by omega)
    rw [hv, hv] at h
    obtain ⟨e1, e2⟩ := hv_inj k j (fun i hi => hf i (by omega)) (fun i hi => hg i (by omega)) (by omega)
    refine ⟨by omega, fun i hi => ?_⟩
    by_cases z : i = k
    · subst z; subst e1; omega
    · exact e2 i (by omega)
theorem hv_cong {f g : Nat → Nat} {s t : Nat} : ∀ (k : Nat), (∀ i, i < k → f (s + i) = g (t + i)) → hv f s k = hv g t k
  | 0, _ => rfl
  | k + 1, h => by rw [hv, hv, hv_cong k (fun i hi => h i (by omega)), h k (by omega)]
theorem alB_mk {f : Nat → Bool} : ∀ (m i : Nat), (∀ j, i ≤ j → j < i + m → f j = true) → alB f m i = true
  | 0, _, _ => rfl
  | m + 1, i, h => by rw [alB, h i (by omega) (by omega), alB_mk m (i + 1) (fun j h1 h2 => h j (by omega) (by omega)), Bool.and_self]
/-- a word stands there, if its number does -/
theorem mtW_iff {bt : Nat → Nat} {s l w : Nat} (hw : w < 12) (hl : ∀ i, i < l → 97 ≤ bt (s + i) ∧ bt (s + i) ≤ 122) : mtW bt s l w = true ↔ mvW bt s l = cwN w := by
  have hc := cwN_le w hw
  have h7 := tl_le w hw
  have hcw : ∀ i, i < tl w → 97 ≤ ch w (0 + i) ∧ ch w (0 + i) ≤ 122 := fun i hi => by
    rw [Nat.zero_add]
    exact (ch_at w hw i (by omega) hi).2.2
  have hm := mvW_hv bt s l
  unfold mtW
  rw [Bool.and_eq_true, decide_eq_true_eq]
  constructor
  · rintro ⟨rfl, h2⟩
    have e : hv bt s (tl w) = cwN w := hv_cong (tl w) (fun i hi => by
      have := alB_at (tl w) 0 i h2 (by omega) (by omega)
      rw [Nat.zero_add]
      exact of_decide_eq_true this)
    omega
  · intro h
    have e : hv bt s l = cwN w := by omega
    obtain ⟨e1, e2⟩ := hv_inj l (tl w) hl hcw e
    refine ⟨e1.symm, alB_mk _ _ (fun j j1 j2 => ?_)⟩
    have := e2 j (by omega)
    rw [Nat.zero_add] at this
    exact decide_eq_true this
theorem em_wordLoop {bt : Nat → Nat} {n s : Nat} (hb : btOk bt n) : ∀ (m fuel i : Nat) (σ : fm_M), m < fuel → s + i + m = n → (∀ j, j < i → isL (bt (s + j)) = true) → tpM σ bt n → σ.1 96 11 = nI (s + i) → σ.2 96 12 = lN (mvW bt s i) → ∃ σ', (∀ kc : fm_M → Option (Unit × fm_M), m_X12_nextToken_98 kc fuel σ = kc σ') ∧ σ'.1 96 11 = nI (tf (nl bt) m (s + i)) ∧ σ'.2 96 12 = lN (mvW bt s (tf (nl bt) m (s + i) - s)) ∧ fE2 (fun a k => a = 96 ∧ k = 11) σ σ' := by
  intro m
  induction m with
  | zero =>
    intro fuel i σ hf hi hl ht h3 h5
    obtain ⟨f, rfl⟩ : ∃ f, fuel = f + 1 := ⟨fuel - 1, by omega⟩
    have := hb.1
    refine ⟨σ, ?_, h3, ?_, fE2.rf⟩
    · intro kc
      rw [m_X12_nextToken_98, ht.1, h3, if_pos (by rw [nu_le (by omega) (by omega)]; omega)]
    · rw [tf, Nat.add_sub_cancel_left]; exact h5
  | succ m ih =>
    intro fuel i σ hf hi hl ht h3 h5
    obtain ⟨f, rfl⟩ : ∃ f, fuel = f + 1 := ⟨fuel - 1, by omega⟩
    have hn := hb.1
    have hi' := hb.2 (s + i) (by omega)
    have hM := mvW_le (f := bt) (s := s) i (fun j hj => (isL_ok (hl j hj)).2)
    by_cases z : isL (bt (s + i)) = true
    · have z2 := isL_ok z
      have tb : ¬ nl bt (s + i) = true := by simp [nl, z]
      obtain ⟨σ', v1, v2, v3, v4⟩ := ih f (i + 1) (fm_sI (fm_sL σ 96 12 (lN (mvW bt s (i + 1)))) 96 11 (nI (s + i + 1))) (by omega) (by omega) (fun j hj => by
          by_cases y : j = i
          · subst y; exact z
          · exact hl j (by omega)) (ht.keep (by rw [nu_sI, if_neg (by omega), nu_sL1]) (fun k => by rw [nu_sI, if_neg (by omega), nu_sL1])) (by rw [nu_sI, if_pos ⟨rfl, rfl⟩, Nat.add_assoc]) (by rw [nu_sI2, nu_sL, if_pos ⟨rfl, rfl⟩])
      rw [tf, if_neg tb]
      refine ⟨σ', ?_, v2, v3, ?_⟩
      · intro kc
        rw [m_X12_nextToken_98]
        simp only [nu_lit, nu_litL, nu_j]
        rw [ht.1, h3, if_neg (by rw [nu_le (by omega) (by omega)]; omega), nu_in (by omega) (by decide), nu_g, nu_cl (by omega), ht.2 _ (by omega), em_isLetter _ hi', nu_b, if_pos z, if_neg nI10, h5, h3, nu_in (by omega) (by decide), nu_g, nu_cl (by omega), ht.2 _ (by omega)]
        by_cases y : 9999999999999 < mvW bt s i
        · have e : mvW bt s (i + 1) = mvW bt s i := by rw [mvW, if_pos y]
          rw [e] at v1
          rw [if_neg (fun q => by
            have := (pk_lLE (by omega) (by omega)).mp ((lgLE _ _).mp q)
            omega), nu_let, nu_sL1, h3, nI_add, nu_let]
          exact v1 kc
        · have e : mvW bt s (i + 1) = mvW bt s i * 27 + bt (s + i) - 96 := by rw [mvW, if_neg y]; omega
          rw [e] at v1
          rw [if_pos ((lgLE _ _).mpr ((pk_lLE (by omega) (by omega)).mpr (by omega))), nI_l (by omega), lN_mul, lN_add, lN_sub (by omega), nu_let, nu_sL1, h3, nI_add, nu_let]
          exact v1 kc
      · exact fE2.tr (S := fun a k => a = 96 ∧ k = 11) (fE2.tr (S := fun a k => a = 96 ∧ k = 11) (S1 := fun a k => a = 96 ∧ k = 11) (S2 := fun a k => a = 96 ∧ k = 11) fE2.setL (fE2.of (fEq.set ⟨rfl, rfl⟩)) (fun _ _ z => z) (fun _ _ z => z)) v4 (fun _ _ z => z) (fun _ _ z => z)
    · have tb : nl bt (s + i) = true := by simp [nl, z]
      rw [tf, if_pos tb]
      refine ⟨σ, ?_, h3, ?_, fE2.rf⟩
      · intro kc
        rw [m_X12_nextToken_98]
        simp only [nu_lit, nu_litL, nu_j]
        rw [ht.1, h3, if_neg (by rw [nu_le (by omega) (by omega)]; omega), nu_in (by omega) (by decide), nu_g, nu_cl (by omega), ht.2 _ (by omega), em_isLetter _ hi', nu_b, if_neg z, if_pos rfl]
      · rw [Nat.add_sub_cancel_left]; exact h5
theorem em_numLoop {bt : Nat → Nat} {n s : Nat} (hb : btOk bt n) : ∀ (m fuel i : Nat) (σ : fm_M), m < fuel → s + i + m = n → (∀ j, j < i → isD (bt (s + j)) = true) → tpM σ bt n → σ.1 96 11 = nI (s + i) → σ.2 96 12 = lN (mvD bt s i) → ∃ σ', (∀ kc : fm_M → Option (Unit × fm_M), m_X12_nextToken_197 kc fuel σ = kc σ') ∧ σ'.1 96 11 = nI (tf (nd bt) m (s + i)) ∧ σ'.2 96 12 = lN (mvD bt s (tf (nd bt) m (s + i) - s)) ∧ fE2 (fun a k => a = 96 ∧ k = 11) σ σ' := by
  intro m
  induction m with
  | zero =>
    intro fuel i σ hf hi hl ht h3 h5
    obtain ⟨f, rfl⟩ : ∃ f, fuel = f + 1 := ⟨fuel - 1, by omega⟩
    have := hb.1
    refine ⟨σ, ?_, h3, ?_, fE2.rf⟩
    · intro kc
      rw [m_X12_nextToken_197, ht.1, h3, if_pos (by rw [nu_le (by omega) (by omega)]; omega)]
    · rw [tf, Nat.add_sub_cancel_left]; exact h5
  | succ m ih =>
    intro fuel i σ hf hi hl ht h3 h5
    obtain ⟨f, rfl⟩ : ∃ f, fuel = f + 1 := ⟨fuel - 1, by omega⟩
    have hn := hb.1
    have hi' := hb.2 (s + i) (by omega)
    have hM := mvD_le (bt := bt) (s := s) i (fun j hj => (isD_ok (hl j hj)).2)
    by_cases z : isD (bt (s + i)) = true
    · have z2 := isD_ok z
      have tb : ¬ nd bt (s + i) = true := by simp [nd, z]
      obtain ⟨σ', v1, v2, v3, v4⟩ := ih f (i + 1) (fm_sI (fm_sL σ 96 12 (lN (mvD bt s (i + 1)))) 96 11 (nI (s + i + 1))) (by omega) (by omega) (fun j hj => by
          by_cases y : j = i
          · subst y; exact z
          · exact hl j (by omega)) (ht.keep (by rw [nu_sI, if_neg (by omega), nu_sL1]) (fun k => by rw [nu_sI, if_neg (by omega), nu_sL1])) (by rw [nu_sI, if_pos ⟨rfl, rfl⟩, Nat.add_assoc]) (by rw [nu_sI2, nu_sL, if_pos ⟨rfl, rfl⟩])
      rw [tf, if_neg tb]
      refine ⟨σ', ?_, v2, v3, ?_⟩
      · intro kc
        rw [m_X12_nextToken_197]
        simp only [nu_lit, nu_litL, nu_j]
        rw [ht.1, h3, if_neg (by rw [nu_le (by omega) (by omega)]; omega), nu_in (by omega) (by decide), nu_g, nu_cl (by omega), ht.2 _ (by omega), em_isDigit _ hi', nu_b, if_pos z, if_neg nI10, h5, h3, nu_in (by omega) (by decide), nu_g, nu_cl (by omega), ht.2 _ (by omega)]
        by_cases y : 999 < mvD bt s i
        · have e : mvD bt s (i + 1) = mvD bt s i := by rw [mvD, if_pos y]
          rw [e] at v1
          rw [if_neg (fun q => by
            have := (pk_lLE (by omega) (by omega)).mp ((lgLE _ _).mp q)
            omega), nu_let, nu_sL1, h3, nI_add, nu_let]
          exact v1 kc
        · have e : mvD bt s (i + 1) = mvD bt s i * 10 + bt (s + i) - 48 := by rw [mvD, if_neg y]; omega
          rw [e] at v1
          rw [if_pos ((lgLE _ _).mpr ((pk_lLE (by omega) (by omega)).mpr (by omega))), nI_l (by omega), lN_mul, lN_add, lN_sub (by omega), nu_let, nu_sL1, h3, nI_add, nu_let]
          exact v1 kc
      · exact fE2.tr (S := fun a k => a = 96 ∧ k = 11) (fE2.tr (S := fun a k => a = 96 ∧ k = 11) (S1 := fun a k => a = 96 ∧ k = 11) (S2 := fun a k => a = 96 ∧ k = 11) fE2.setL (fE2.of (fEq.set ⟨rfl, rfl⟩)) (fun _ _ z => z) (fun _ _ z => z)) v4 (fun _ _ z => z) (fun _ _ z => z)
    · have tb : nd bt (s + i) = true := by simp [nd, z]
      rw [tf, if_pos tb]
      refine ⟨σ, ?_, h3, ?_, fE2.rf⟩
      · intro kc
        rw [m_X12_nextToken_197]
        simp only [nu_lit, nu_litL, nu_j]
        rw [ht.1, h3, if_neg (by rw [nu_le (by omega) (by omega)]; omega), nu_in (by omega) (by decide), nu_g, nu_cl (by omega), ht.2 _ (by omega), em_isDigit _ hi', nu_b, if_neg z, if_pos rfl]
      · rw [Nat.add_sub_cancel_left]; exact h5
-- which word
def wv (tx : List Int32) (w : Nat) : Nat → Nat → Int64 → Int64
  | 0, _, v => v
  | m + 1, k, v => wv tx w m (k + 1) (if tx.getD (8 * w + k) 0 = nI 32 then v else v * lN 27 + (tx.getD (8 * w + k) 0).toInt64 - lN 96)
theorem em_wv (kc : Nat → Int32 → Int32 → Int64 → Int32 → fm_M → Option (Int32 × fm_M)) {a W w : Nat} {z2 : Int32} {tx : List Int32} {σ : fm_M} (hW : W ≤ 6) (hw : w < W) (hln : fm_ln a = 8 * W) (hc : ∀ k, k < 8 * W → σ.1 a k = tx.getD k 0) : ∀ (m fuel k : Nat) (v : Int64), m < fuel → k + m = 8 → m_X12_wordOf_27 kc fuel a z2 (nI w) v (nI k) σ = kc a z2 (nI w) (wv tx w m k v) (nI 8) σ := by
  intro m
  induction m with
  | zero =>
    intro fuel k v hf hk
    obtain ⟨f, rfl⟩ : ∃ f, fuel = f + 1 := ⟨fuel - 1, by omega⟩
    rw [m_X12_wordOf_27]
    simp only [nu_lit]
    rw [if_pos (by rw [nu_le (by omega) (by omega)]; omega), wv, show k = 8 by omega]
  | succ m ih =>
    intro fuel k v hf hk
    obtain ⟨f, rfl⟩ : ∃ f, fuel = f + 1 := ⟨fuel - 1, by omega⟩
    rw [m_X12_wordOf_27]
    simp only [nu_lit, nu_litL]
    rw [if_neg (by rw [nu_le (by omega) (by omega)]; omega), pk_mul, nI_add, hln, nu_in (by omega) (by omega), nu_g, nu_cl (by omega), hc _ (by omega), nu_g, nI_add, wv]
    by_cases z : tx.getD (8 * w + k) 0 = nI 32
    · rw [if_pos z, if_pos z]
      exact ih f (k + 1) v (by omega) (by omega)
    · rw [if_neg z, if_neg z]
      exact ih f (k + 1) _ (by omega) (by omega)
def wl (p : Nat → Bool) : Nat → Nat → Int32 → Int32
  | 0, _, d => d
  | m + 1, i, d => wl p m (i + 1) (if p i = true then nI i else d)
theorem wl_no {p : Nat → Bool} : ∀ (m i : Nat) (d : Int32), (∀ j, i ≤ j → j < i + m → p j = false) → wl p m i d = d
  | 0, _, _, _ => rfl
  | m + 1, i, d, h => by
    rw [wl, h i (by omega) (by omega), if_neg (by decide)]
    exact wl_no m (i + 1) d (fun j h1 h2 => h j (by omega) (by omega))
theorem em_wl (kc : Nat → Int32 → Int32 → fm_M → Option (Int32 × fm_M)) {a W : Nat} {tx : List Int32} {σ : fm_M} (hW : W ≤ 6) (hln : fm_ln a = 8 * W) (hc : ∀ k, k < 8 * W → σ.1 a k = tx.getD k 0) (h9 : σ.1 96 9 = nI 1) : ∀ (m fuel i : Nat) (d : Int32), m < fuel → i + m = W → m_X12_wordOf_4 kc fuel a d (nI i) σ = kc a (wl (fun w => decide (wv tx w 8 0 (lN 0) = σ.2 96 12)) m i d) (nI W) σ := by
  intro m
  have hd : Int32.ofNat (fm_ln a) / nI 8 = nI W := by
    rw [hln]
    show nI (8 * W) / nI 8 = nI W
    rw [nu_div (by omega) (by decide) (by decide), Nat.mul_div_cancel_left _ (by decide)]
  induction m with
  | zero =>
    intro fuel i d hf hi
    obtain ⟨f, rfl⟩ : ∃ f, fuel = f + 1 := ⟨fuel - 1, by omega⟩
    rw [m_X12_wordOf_4]
    simp only [nu_lit]
    rw [hd, if_pos (by rw [nu_le (by omega) (by omega)]; omega), wl, show i = W by omega]
  | succ m ih =>
    intro fuel i d hf hi
    obtain ⟨f, rfl⟩ : ∃ f, fuel = f + 1 := ⟨fuel - 1, by omega⟩
    rw [m_X12_wordOf_4]
    simp only [nu_lit, nu_litL]
    rw [hd, if_neg (by rw [nu_le (by omega) (by omega)]; omega), h9, if_pos rfl, em_wv _ hW (show i < W by omega) hln hc 8 fm_fu 0 (lN 0) (by have := nu_fu; omega) (by omega), nI_add, wl]
    by_cases z : wv tx i 8 0 (lN 0) = σ.2 96 12
    · rw [if_pos ((lgEQ _ _).mpr z), decide_eq_true z, if_pos rfl]
      exact ih f (i + 1) _ (by omega) (by omega)
    · rw [if_neg (fun q => z ((lgEQ _ _).mp q)), decide_eq_false z, if_neg (by decide)]
      exact ih f (i + 1) _ (by omega) (by omega)
theorem em_wordOf {a W : Nat} {tx : List Int32} {σ : fm_M} (hW : W ≤ 6) (hln : fm_ln a = 8 * W) (hc : ∀ k, k < 8 * W → σ.1 a k = tx.getD k 0) (h9 : σ.1 96 9 = nI 1) : m_X12_wordOf a σ = some (wl (fun w => decide (wv tx w 8 0 (lN 0) = σ.2 96 12)) W 0 (-nI 1), σ) := by
  unfold m_X12_wordOf
  simp only [nu_lit]
  rw [em_wl _ hW hln hc h9 W fm_fu 0 _ (by have := nu_fu; omega) (by omega)]
theorem em_wordNo {a W : Nat} {σ : fm_M} (hW : W ≤ 6) (h0 : 0 < W) (hln : fm_ln a = 8 * W) (h9 : ¬ σ.1 96 9 = nI 1) : m_X12_wordOf a σ = some (-nI 1, σ) := by
  have hd : Int32.ofNat (fm_ln a) / nI 8 = nI W := by
    rw [hln]
    show nI (8 * W) / nI 8 = nI W
    rw [nu_div (by omega) (by decide) (by decide), Nat.mul_div_cancel_left _ (by decide)]
  unfold m_X12_wordOf
  obtain ⟨f, hf⟩ : ∃ f, fm_fu = f + 1 := ⟨fm_fu - 1, by have := nu_fu; omega⟩
  rw [hf, m_X12_wordOf_4]
  simp only [nu_lit]
  rw [hd, if_neg (by rw [nu_le (by omega) (by omega)]; omega), if_neg h9]
/-- a token of the class's, and the reference's -/
def tkC (t v : Nat) (mt : Int32) (mv : Int64) : Prop := (t < 12 ∧ mt = nI 1 ∧ mv = lN (cwN t)) ∨ (t = 15 ∧ mt = nI 1 ∧ ∀ w, w < 12 → mv ≠ lN (cwN w)) ∨ (t = 12 ∧ mt = nI 3) ∨ (t = 13 ∧ v ≤ 999 ∧ mt = nI 2 ∧ mv = lN v) ∨ (t = 13 ∧ 999 < v ∧ mt = nI 4) ∨ (t = 14 ∧ mt = nI 0) ∨ (t = 15 ∧ mt = nI 4)
theorem wv_L : ∀ w, w < 6 → wv txL w 8 0 (lN 0) = lN (cwN w) := by decide +kernel
theorem wv_O : ∀ w, w < 2 → wv txO w 8 0 (lN 0) = lN (cwN (10 + w)) := by decide +kernel
theorem wv_P : ∀ w, w < 4 → wv txP w 8 0 (lN 0) = lN (cwN (6 + w)) := by decide +kernel
theorem wl_L : ∀ t, t < 12 → wl (fun w => decide (wv txL w 8 0 (lN 0) = lN (cwN t))) 6 0 (-nI 1) = if t < 6 then nI t else -nI 1 := by decide +kernel
theorem wl_O : ∀ t, t < 12 → wl (fun w => decide (wv txO w 8 0 (lN 0) = lN (cwN t))) 2 0 (-nI 1) = if t = 10 then nI 0 else if t = 11 then nI 1 else -nI 1 := by decide +kernel
theorem wl_P : ∀ t, t < 12 → wl (fun w => decide (wv txP w 8 0 (lN 0) = lN (cwN t))) 4 0 (-nI 1) = if 6 ≤ t ∧ t < 10 then nI (t - 6) else -nI 1 := by decide +kernel
theorem em_w103 {σ : fm_M} {t v : Nat} (hc : iC σ) (h : tkC t v (σ.1 96 9) (σ.2 96 12)) : m_X12_wordOf 103 σ = some (if t < 6 then nI t else -nI 1, σ) := by
  have hln : fm_ln 103 = 8 * 6 := by decide +kernel
  rcases h with ⟨h1, h2, h3⟩ | ⟨h1, h2, h3⟩ | h
  · rw [em_wordOf (by decide) hln hc.1 h2, h3, wl_L t h1]
  · rw [em_wordOf (by decide) hln hc.1 h2, wl_no _ _ _ (fun j _ j2 => decide_eq_false (fun q => h3 j (by omega) (by rw [← q, wv_L j (by omega)]))), if_neg (by omega)]
  · have h9 : ¬ σ.1 96 9 = nI 1 := by
      intro q
      rw [q] at h
      rcases h with h | h | h | h | h
      · exact absurd h.2 (by decide)
      · exact absurd h.2.2.1 (by decide)
      · exact absurd h.2.2 (by decide)
      · exact absurd h.2 (by decide)
      · exact absurd h.2 (by decide)
    rw [em_wordNo (by decide) (by decide) hln h9, if_neg (by omega)]
theorem em_w104 {σ : fm_M} {t v : Nat} (hc : iC σ) (h : tkC t v (σ.1 96 9) (σ.2 96 12)) : m_X12_wordOf 104 σ = some (if t = 10 then nI 0 else if t = 11 then nI 1 else -nI 1, σ) := by
  have hln : fm_ln 104 = 8 * 2 := by decide +kernel
  rcases h with ⟨h1, h2, h3⟩ | ⟨h1, h2, h3⟩ | h
  · rw [em_wordOf (by decide) hln hc.2.1 h2, h3, wl_O t h1]
  · rw [em_wordOf (by decide) hln hc.2.1 h2, wl_no _ _ _ (fun j _ j2 => decide_eq_false (fun q => h3 (10 + j) (by omega) (by rw [← q, wv_O j (by omega)]))), if_neg (by omega), if_neg (by omega)]
  · have h9 : ¬ σ.1 96 9 = nI 1 := by
      intro q
      rw [q] at h
      rcases h with h | h | h | h | h
      · exact absurd h.2 (by decide)
      · exact absurd h.2.2.1 (by decide)
      · exact absurd h.2.2 (by decide)
      · exact absurd h.2 (by decide)
      · exact absurd h.2 (by decide)
    rw [em_wordNo (by decide) (by decide) hln h9, if_neg (by omega), if_neg (by omega)]
theorem em_w105 {σ : fm_M} {t v : Nat} (hc : iC σ) (h : tkC t v (σ.1 96 9) (σ.2 96 12)) : m_X12_wordOf 105 σ = some (if 6 ≤ t ∧ t < 10 then nI (t - 6) else -nI 1, σ) := by
  have hln : fm_ln 105 = 8 * 4 := by decide +kernel
  rcases h with ⟨h1, h2, h3⟩ | ⟨h1, h2, h3⟩ | h
  · rw [em_wordOf (by decide) hln hc.2.2 h2, h3, wl_P t h1]
  · rw [em_wordOf (by decide) hln hc.2.2 h2, wl_no _ _ _ (fun j _ j2 => decide_eq_false (fun q => h3 (6 + j) (by omega) (by rw [← q, wv_P j (by omega)]))), if_neg (by omega)]
  · have h9 : ¬ σ.1 96 9 = nI 1 := by
      intro q
      rw [q] at h
      rcases h with h | h | h | h | h
      · exact absurd h.2 (by decide)
      · exact absurd h.2.2.1 (by decide)
      · exact absurd h.2.2 (by decide)
      · exact absurd h.2 (by decide)
      · exact absurd h.2 (by decide)
    rw [em_wordNo (by decide) (by decide) hln h9, if_neg (by omega)]
