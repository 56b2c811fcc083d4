/-! FEEDING -/
theorem fd_bits (b : BitVec 32) (s : Nat) (hs : s ≤ 24) : (b >>> s) &&& 255#32 = (b.sshiftRight s) &&& 255#32 := by
  apply BitVec.eq_of_getLsbD_eq
  intro i hi
  rw [BitVec.getLsbD_and, BitVec.getLsbD_and, BitVec.getLsbD_ushiftRight, BitVec.getLsbD_sshiftRight]
  by_cases h : i < 8
  · rw [decide_eq_false (show ¬ 32 ≤ i by omega), if_pos (show s + i < 32 by omega)]
    simp
  · have h2 : ∀ i, i < 32 → 8 ≤ i → (255#32).getLsbD i = false := by decide
    rw [h2 i hi (by omega), Bool.and_false, Bool.and_false]
def byt (x : Int32) (k : Nat) : Int32 := (x >>> ((nI 8 * nI k) &&& nI 31)) &&& nI 255
theorem byt_X (x : Int32) (k : Nat) (hk : k < 4) : (x.toUInt32 >>> (Int32.toUInt32 (nI 8 * nI k) &&& Int32.toUInt32 (nI 31))).toInt32 &&& nI 255 = byt x k := by
  have e : k = 0 ∨ k = 1 ∨ k = 2 ∨ k = 3 := by omega
  rcases e with rfl | rfl | rfl | rfl
  · exact Int32.toBitVec_inj.mp (fd_bits x.toBitVec 0 (by decide))
  · exact Int32.toBitVec_inj.mp (fd_bits x.toBitVec 8 (by decide))
  · exact Int32.toBitVec_inj.mp (fd_bits x.toBitVec 16 (by decide))
  · exact Int32.toBitVec_inj.mp (fd_bits x.toBitVec 24 (by decide))
theorem and255 (y : Int32) : ∃ v, v < 256 ∧ y &&& nI 255 = nI v := by
  refine ⟨(y &&& nI 255).toBitVec.toNat, ?_, ?_⟩
  · have : (y &&& nI 255).toBitVec = y.toBitVec &&& 255#32 := rfl
    rw [this, BitVec.toNat_and]
    exact Nat.lt_of_le_of_lt Nat.and_le_right (by decide)
  · apply Int32.toBitVec_inj.mp
    have : (nI (y &&& nI 255).toBitVec.toNat).toBitVec = BitVec.ofNat 32 (y &&& nI 255).toBitVec.toNat := rfl
    rw [this, BitVec.ofNat_toNat, BitVec.setWidth_eq]
def zi (m : Nat) : Int32 := if m = 0 then -nI 1 else nI (m - 1)
theorem zi_next (m : Nat) : nI m + (-nI 1) = zi m := by
  cases m with
  | zero => decide
  | succ m =>
    unfold zi
    rw [if_neg (by omega), Nat.add_sub_cancel]
    exact nu_ng m
theorem ex_feedLoop (kc : Int32 → Int32 → fm_M → Option (Int32 × fm_M)) {x : Int32} : ∀ (m fuel n : Nat) (σ : fm_M), m < fuel → m ≤ 4 → n + m ≤ 120 → σ.1 92 1 = nI n → ∃ σ', m_X11_feed_41 kc fuel x (zi m) σ = kc x (-nI 1) σ' ∧ σ'.1 92 1 = nI (n + m) ∧ (∀ i, i < m → σ'.1 93 (n + i) = byt x (m - 1 - i)) ∧ fEq (fun a k => (a = 92 ∧ k = 1) ∨ (a = 93 ∧ n ≤ k)) σ σ' := by
  intro m
  induction m with
  | zero =>
    intro fuel n σ hf h4 hn h
    obtain ⟨f, rfl⟩ : ∃ f, fuel = f + 1 := ⟨fuel - 1, by omega⟩
    refine ⟨σ, ?_, h, fun i hi => by omega, fEq.rf⟩
    rw [m_X11_feed_41, show zi 0 = -nI 1 from rfl, if_pos (by decide)]
  | succ m ih =>
    intro fuel n σ hf h4 hn h
    obtain ⟨f, rfl⟩ : ∃ f, fuel = f + 1 := ⟨fuel - 1, by omega⟩
    have ez : zi (m + 1) = nI m := rfl
    have e1 : (fm_sI σ 93 n (byt x m)).1 92 1 = nI n := by rw [nu_sI, if_neg (by omega)]; exact h
    obtain ⟨σ', v1, v2, v3, v4⟩ := ih f (n + 1) (fm_sI (fm_sI σ 93 n (byt x m)) 92 1 (nI (n + 1))) (by omega) (by omega) (by omega) (by rw [nu_sI, if_pos ⟨rfl, rfl⟩])
    refine ⟨σ', ?_, ?_, fun i hi => ?_, ?_⟩
    · rw [m_X11_feed_41, ez]
      simp only [nu_lit]
      rw [if_neg (by rw [nu_lt (by omega) (by omega)]; omega), byt_X x m (by omega), m_X9_add]
      simp only [nu_lit]
      rw [h, if_neg (by rw [nu_le (by omega) (by omega)]; omega), nu_in (by omega) (by decide), nu_g, nu_let, nu_cl (by omega), e1, nI_add, nu_let, nu_b, zi_next]
      exact v1
    · rw [v2, Nat.add_assoc, Nat.add_comm 1 m]
    · by_cases z : i = 0
      · subst z
        rw [v4.1 _ _ (by omega), nu_sI, if_neg (by omega), nu_sI, if_pos ⟨rfl, rfl⟩]
        rfl
      · have := v3 (i - 1) (by omega)
        rw [show n + 1 + (i - 1) = n + i by omega, show m - 1 - (i - 1) = m + 1 - 1 - i by omega] at this
        exact this
    · have s1 : fEq (fun a k => (a = 92 ∧ k = 1) ∨ (a = 93 ∧ n ≤ k)) σ (fm_sI σ 93 n (byt x m)) := fEq.set (Or.inr ⟨rfl, Nat.le_refl _⟩)
      have s2 : fEq (fun a k => (a = 92 ∧ k = 1) ∨ (a = 93 ∧ n ≤ k)) (fm_sI σ 93 n (byt x m)) (fm_sI (fm_sI σ 93 n (byt x m)) 92 1 (nI (n + 1))) := fEq.set (Or.inl ⟨rfl, rfl⟩)
      exact fEq.tr (S := fun a k => (a = 92 ∧ k = 1) ∨ (a = 93 ∧ n ≤ k)) (fEq.tr (S := fun a k => (a = 92 ∧ k = 1) ∨ (a = 93 ∧ n ≤ k)) s1 s2 (fun _ _ z => z) (fun _ _ z => z)) v4 (fun _ _ z => z) (fun a k z => by rcases z with z | z; exact Or.inl z; exact Or.inr ⟨z.1, by omega⟩)
theorem em_feedLoop (kc : Int32 → Int32 → fm_M → Option (Int32 × fm_M)) {x : Int32} : ∀ (m fuel n : Nat) (σ : fm_M), m < fuel → m ≤ 4 → n + m ≤ 120 → σ.1 96 8 = nI n → ∃ σ', m_X12_feed_36 kc fuel x (zi m) σ = kc x (-nI 1) σ' ∧ σ'.1 96 8 = nI (n + m) ∧ (∀ i, i < m → σ'.1 102 (n + i) = byt x (m - 1 - i)) ∧ fEq (fun a k => (a = 96 ∧ k = 8) ∨ (a = 102 ∧ n ≤ k)) σ σ' := by
  intro m
  induction m with
  | zero =>
    intro fuel n σ hf h4 hn h
    obtain ⟨f, rfl⟩ : ∃ f, fuel = f + 1 := ⟨fuel - 1, by omega⟩
    refine ⟨σ, ?_, h, fun i hi => by omega, fEq.rf⟩
    rw [m_X12_feed_36, show zi 0 = -nI 1 from rfl, if_pos (by decide)]
  | succ m ih =>
    intro fuel n σ hf h4 hn h
    obtain ⟨f, rfl⟩ : ∃ f, fuel = f + 1 := ⟨fuel - 1, by omega⟩
    have ez : zi (m + 1) = nI m := rfl
    have e1 : (fm_sI σ 102 n (byt x m)).1 96 8 = nI n := by rw [nu_sI, if_neg (by omega)]; exact h
    obtain ⟨σ', v1, v2, v3, v4⟩ := ih f (n + 1) (fm_sI (fm_sI σ 102 n (byt x m)) 96 8 (nI (n + 1))) (by omega) (by omega) (by omega) (by rw [nu_sI, if_pos ⟨rfl, rfl⟩])
    refine ⟨σ', ?_, ?_, fun i hi => ?_, ?_⟩
    · rw [m_X12_feed_36, ez]
      simp only [nu_lit]
      rw [if_neg (by rw [nu_lt (by omega) (by omega)]; omega), h, nu_in (by omega) (by decide), nu_g, nu_let, nu_cl (by omega), show (x >>> ((nI 8 * nI m) &&& nI 31)) &&& nI 255 = byt x m from rfl, e1, nI_add, nu_let, zi_next]
      exact v1
    · rw [v2, Nat.add_assoc, Nat.add_comm 1 m]
    · by_cases z : i = 0
      · subst z
        rw [v4.1 _ _ (by omega), nu_sI, if_neg (by omega), nu_sI, if_pos ⟨rfl, rfl⟩]
        rfl
      · have := v3 (i - 1) (by omega)
        rw [show n + 1 + (i - 1) = n + i by omega, show m - 1 - (i - 1) = m + 1 - 1 - i by omega] at this
        exact this
    · have s1 : fEq (fun a k => (a = 96 ∧ k = 8) ∨ (a = 102 ∧ n ≤ k)) σ (fm_sI σ 102 n (byt x m)) := fEq.set (Or.inr ⟨rfl, Nat.le_refl _⟩)
      have s2 : fEq (fun a k => (a = 96 ∧ k = 8) ∨ (a = 102 ∧ n ≤ k)) (fm_sI σ 102 n (byt x m)) (fm_sI (fm_sI σ 102 n (byt x m)) 96 8 (nI (n + 1))) := fEq.set (Or.inl ⟨rfl, rfl⟩)
      exact fEq.tr (S := fun a k => (a = 96 ∧ k = 8) ∨ (a = 102 ∧ n ≤ k)) (fEq.tr (S := fun a k => (a = 96 ∧ k = 8) ∨ (a = 102 ∧ n ≤ k)) s1 s2 (fun _ _ z => z) (fun _ _ z => z)) v4 (fun _ _ z => z) (fun a k z => by rcases z with z | z; exact Or.inl z; exact Or.inr ⟨z.1, by omega⟩)
theorem op_feed (b x : Int32) {σ : fm_M} (h : Inv σ) : opS (m_X11_feed b x) (m_X12_feed b x) σ := by
  obtain ⟨hR, dy, np, ng, kd, jy, pr, k1, k2, k3, k4⟩ := id h
  obtain ⟨n, n1, n2, n3, n4⟩ := hR.2.1
  rcases nu_ix1 x (n := 4) (by decide) with ⟨jx, gx, hx, rfl⟩ | hx
  · by_cases z : n + jx ≤ 120
    · have ej : nI jx - nI 1 = zi jx := by unfold zi; rw [if_neg (by omega), nu_sub gx]
      obtain ⟨σ1, a1, a2, a3, a4⟩ := ex_feedLoop (fun (x1_y7) (x3_y7) (σ_y7) => some ((σ_y7.1 92 1), σ_y7)) (x := b) jx fm_fu n σ (by have := nu_fu; omega) (by omega) z n2
      obtain ⟨σ2, b1, b2, b3, b4⟩ := em_feedLoop (fun (x1_y9) (x3_y9) (σ_y9) => some ((σ_y9.1 96 8), σ_y9)) (x := b) jx fm_fu n σ1 (by have := nu_fu; omega) (by omega) z (by rw [a4.1 _ _ (by omega)]; exact n3)
      refine ⟨nI (n + jx), σ1, σ2, ?_, ?_, ?_⟩
      · unfold m_X11_feed
        simp only [nu_lit]
        rw [ex_wT gx hx (by decide), nu_b, if_neg nI10, n2, nI_add, if_pos (by rw [nu_le (by omega) (by omega)]; exact z), ej, a1, a2]
      · unfold m_X12_feed
        simp only [nu_lit]
        rw [em_in1T _ gx hx (by decide), nu_b, if_neg nI10, a4.1 _ _ (by omega), n3, nI_add, if_pos (by rw [nu_le (by omega) (by omega)]; exact z), ej, b1, b2]
      · have e : ∀ a k, a ≠ 92 → a ≠ 93 → a ≠ 96 → a ≠ 102 → σ2.1 a k = σ.1 a k := fun a k i1 i2 i3 i4 => by rw [b4.1 _ _ (by omega), a4.1 _ _ (by omega)]
        have hr := rest_keep hR (σ2 := σ2) ⟨fun a k y => e a k (by unfold sG at y; omega) (by unfold sG at y; omega) (by unfold sG at y; omega) (by unfold sG at y; omega), b4.2.trans a4.2⟩
        refine ⟨⟨hR.1.keep (fun k => e _ _ (by omega) (by omega) (by omega) (by omega)) (fun a k i1 i2 => e _ _ (by omega) (by omega) (by omega) (by omega)) (by rw [b4.1 _ _ (by omega), a4.1 _ _ (by omega)]) (fun k => e _ _ (by omega) (by omega) (by omega) (by omega)), ⟨n + jx, z, ?_, b2, fun i hi => ?_⟩, hr⟩, dy, np, ng, kd, jy, pr, k1, k2, k3.keep k1 (fun a k i1 i2 => e _ _ (by omega) (by omega) (by omega) (by omega)), k4.keep (fun k => e _ _ (by omega) (by omega) (by omega) (by omega))⟩
        · rw [b4.1 _ _ (by omega), a2]
        · rw [b4.1 93 i (by omega)]
          by_cases y : i < n
          · rw [b4.1 _ _ (by omega), a4.1 102 i (by omega), a4.1 93 i (by omega)]
            exact n4 i y
          · have q1 := a3 (i - n) (by omega)
            have q2 := b3 (i - n) (by omega)
            rw [show n + (i - n) = i by omega] at q1 q2
            rw [q1, q2]
            exact ⟨rfl, and255 _⟩
    · refine stp_find 1 (by decide) h ?_ (fun σ1 hs => ?_)
      · unfold m_X11_feed
        simp only [nu_lit, fnd1]
        rw [ex_wT gx hx (by decide), nu_b, if_neg nI10, n2, nI_add, if_neg (by rw [nu_le (by omega) (by omega)]; exact z)]
      · unfold m_X12_feed
        simp only [nu_lit]
        rw [em_in1T _ gx hx (by decide), nu_b, if_neg nI10, hs _ _ (by omega), n3, nI_add, if_neg (by rw [nu_le (by omega) (by omega)]; exact z)]
  · refine stp_find 0 (by decide) h ?_ (fun σ1 hs => ?_)
    · unfold m_X11_feed
      simp only [nu_lit, fnd0]
      rw [em_within, if_neg hx, nu_b, if_pos rfl]
    · unfold m_X12_feed
      simp only [nu_lit]
      rw [em_in1, if_neg hx, nu_b, if_pos rfl]
