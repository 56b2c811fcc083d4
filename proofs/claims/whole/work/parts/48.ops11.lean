/-! IMAGES, COUNTS, THE TAPE -/
def sG : Nat → Nat → Prop := fun a _ => a < 84 ∨ a = 92 ∨ a = 93 ∨ a = 95 ∨ a = 96 ∨ a = 97 ∨ a = 98 ∨ a = 99 ∨ a = 101 ∨ a = 102
theorem rest_keep {σ σ2 : fm_M} (h : iR σ) (hf : fEq sG σ σ2) : iS σ2 ∧ iF σ2 ∧ iC σ2 := by
  obtain ⟨h1, h2, h3, h4, h5⟩ := h
  have e : ∀ a k, ¬ sG a k → σ2.1 a k = σ.1 a k := fun a k z => hf.1 a k z
  refine ⟨h3.keep (fun a k i1 i2 => e _ _ (by unfold sG; omega)) (fun k => e _ _ (by unfold sG; omega)) (fun k => e _ _ (by unfold sG; omega)) hf.2, fun k hk => ?_, fun k hk => by rw [e _ _ (by unfold sG; omega)]; exact h5.1 k hk, fun k hk => by rw [e _ _ (by unfold sG; omega)]; exact h5.2.1 k hk, fun k hk => by rw [e _ _ (by unfold sG; omega)]; exact h5.2.2 k hk⟩
  rw [e _ _ (by unfold sG; omega), e _ _ (by unfold sG; omega)]; exact h4 k hk
theorem op_wipe {σ : fm_M} (h : Inv σ) : opS m_X11_wipe m_X12_wipe σ := by
  obtain ⟨hR, dy, np, ng, kd, jy, pr, k1, k2, k3, k4⟩ := id h
  obtain ⟨n, n1, n2, n3, n4⟩ := hR.2.1
  refine ⟨nI n, fm_sI σ 92 1 (nI 0), fm_sI (fm_sI σ 92 1 (nI 0)) 96 8 (nI 0), ?_, ?_, ?_⟩
  · unfold m_X11_wipe
    simp only [nu_lit]
    rw [nu_let, n2]
  · unfold m_X12_wipe
    simp only [nu_lit]
    rw [nu_let, nu_sI, if_neg (by omega), n3]
  · have e : ∀ a k, ¬ (a = 92 ∧ k = 1) → ¬ (a = 96 ∧ k = 8) → (fm_sI (fm_sI σ 92 1 (nI 0)) 96 8 (nI 0)).1 a k = σ.1 a k := fun a k i1 i2 => by rw [nu_sI, if_neg i2, nu_sI, if_neg i1]
    have hr := rest_keep hR (σ2 := fm_sI (fm_sI σ 92 1 (nI 0)) 96 8 (nI 0)) ⟨fun a k z => e a k (by unfold sG at z; omega) (by unfold sG at z; omega), rfl⟩
    refine ⟨⟨hR.1.keep (fun k => e _ _ (by omega) (by omega)) (fun a k i1 i2 => e _ _ (by omega) (by omega)) (e _ _ (by omega) (by omega)) (fun k => e _ _ (by omega) (by omega)), ⟨0, by omega, ?_, ?_, fun i hi => by omega⟩, hr⟩, dy, np, ng, kd, jy, pr, k1, k2, k3.keep k1 (fun a k i1 i2 => e _ _ (by omega) (by omega)), k4.keep (fun k => e _ _ (by omega) (by omega))⟩
    · rw [nu_sI, if_neg (by omega), nu_sI, if_pos ⟨rfl, rfl⟩]
    · rw [nu_sI, if_pos ⟨rfl, rfl⟩]
theorem op_tear {σ : fm_M} (h : Inv σ) : opS m_X11_tear m_X12_tear σ := by
  obtain ⟨hR, dy, np, ng, kd, jy, pr, k1, k2, k3, k4⟩ := id h
  obtain ⟨f1, f2⟩ := hR.1
  have e : ∀ a k, ¬ (a = 0 ∧ k = 3) → ¬ (a = 96 ∧ k = 3) → (fm_sI (fm_sI σ 0 3 (nI 0)) 96 3 (nI 0)).1 a k = σ.1 a k := fun a k i1 i2 => by rw [nu_sI, if_neg i2, nu_sI, if_neg i1]
  have hr := rest_keep hR (σ2 := fm_sI (fm_sI σ 0 3 (nI 0)) 96 3 (nI 0)) ⟨fun a k z => e a k (by unfold sG at z; omega) (by unfold sG at z; omega), rfl⟩
  have hI : Inv (fm_sI (fm_sI σ 0 3 (nI 0)) 96 3 (nI 0)) := by
    refine ⟨⟨⟨?_, Or.inl ?_⟩, hR.2.1.keep (e _ _ (by omega) (by omega)) (fun k => e _ _ (by omega) (by omega)) (e _ _ (by omega) (by omega)) (fun k => e _ _ (by omega) (by omega)), hr⟩, dy, np, ng, kd, jy, pr, k1, k2, k3.keep k1 (fun a k i1 i2 => e _ _ (by omega) (by omega)), k4.keep (fun k => e _ _ (by omega) (by omega))⟩
    · rw [nu_sI, if_pos ⟨rfl, rfl⟩, nu_sI, if_neg (by omega), nu_sI, if_pos ⟨rfl, rfl⟩]
    · rw [nu_sI, if_neg (by omega), nu_sI, if_pos ⟨rfl, rfl⟩]
  have m3 : (fm_sI σ 0 3 (nI 0)).1 96 3 = σ.1 96 3 := by rw [nu_sI, if_neg (by omega)]
  rcases f2 with z | ⟨z, -⟩
  · refine ⟨nI 0, fm_sI σ 0 3 (nI 0), _, ?_, ?_, hI⟩
    · unfold m_X11_tear
      simp only [nu_lit, nu_j]
      rw [z, if_pos rfl, nu_let]
    · unfold m_X12_tear
      simp only [nu_lit, nu_j]
      rw [m3, f1, z, if_pos rfl, nu_let]
  · refine ⟨nI 1, fm_sI σ 0 3 (nI 0), _, ?_, ?_, hI⟩
    · unfold m_X11_tear
      simp only [nu_lit, nu_j]
      rw [z, if_neg nI10, nu_let]
    · unfold m_X12_tear
      simp only [nu_lit, nu_j]
      rw [m3, f1, z, if_neg nI10, nu_let]
theorem em_imageLoop (kc : Int32 → fm_M → Option (Int32 × fm_M)) : ∀ (m fuel i : Nat) (σ : fm_M), m < fuel → i + m = 96 → ∃ σ', m_X12_image_2 kc fuel (nI i) σ = kc (nI 96) σ' ∧ (∀ k, i ≤ k → k < 96 → σ'.1 98 k = σ.1 97 k) ∧ fEq (fun a k => a = 98 ∧ i ≤ k ∧ k < 96) σ σ' := by
  intro m
  induction m with
  | zero =>
    intro fuel i σ hf hi
    obtain ⟨n, rfl⟩ : ∃ n, fuel = n + 1 := ⟨fuel - 1, by omega⟩
    refine ⟨σ, ?_, fun k i1 i2 => by omega, fEq.rf⟩
    rw [m_X12_image_2]
    simp only [nu_lit]
    rw [if_pos (by rw [nu_le (by omega) (by omega)]; omega), show i = 96 by omega]
  | succ m ih =>
    intro fuel i σ hf hi
    obtain ⟨n, rfl⟩ : ∃ n, fuel = n + 1 := ⟨fuel - 1, by omega⟩
    obtain ⟨σ', v1, v2, v3⟩ := ih n (i + 1) (fm_sI σ 98 i (σ.1 97 i)) (by omega) (by omega)
    refine ⟨σ', ?_, fun k i1 i2 => ?_, ?_⟩
    · rw [m_X12_image_2]
      simp only [nu_lit, nI_add]
      rw [if_neg (by rw [nu_le (by omega) (by omega)]; omega), nu_in (by omega) (by decide), nu_g, nu_g, nu_let, nu_cl (by omega)]
      exact v1
    · by_cases e : k = i
      · subst e
        rw [v3.1 _ _ (by omega), nu_sI, if_pos ⟨rfl, rfl⟩]
      · rw [v2 k (by omega) i2, nu_sI, if_neg (by omega)]
    · exact fEq.tr (S2 := fun a k => a = 98 ∧ i + 1 ≤ k ∧ k < 96) (fEq.set (S := fun a k => a = 98 ∧ i ≤ k ∧ k < 96) ⟨rfl, Nat.le_refl _, by omega⟩) v3 (fun _ _ z => z) (fun a k z => ⟨z.1, by omega, z.2.2⟩)
theorem em_undoLoop (kc : Int32 → fm_M → Option (Int32 × fm_M)) : ∀ (m fuel i : Nat) (σ : fm_M), m < fuel → i + m = 96 → ∃ σ', m_X12_undo_15 kc fuel (nI i) σ = kc (nI 96) σ' ∧ (∀ k, i ≤ k → k < 96 → σ'.1 97 k = σ.1 98 k) ∧ fEq (fun a k => a = 97 ∧ i ≤ k ∧ k < 96) σ σ' := by
  intro m
  induction m with
  | zero =>
    intro fuel i σ hf hi
    obtain ⟨n, rfl⟩ : ∃ n, fuel = n + 1 := ⟨fuel - 1, by omega⟩
    refine ⟨σ, ?_, fun k i1 i2 => by omega, fEq.rf⟩
    rw [m_X12_undo_15]
    simp only [nu_lit]
    rw [if_pos (by rw [nu_le (by omega) (by omega)]; omega), show i = 96 by omega]
  | succ m ih =>
    intro fuel i σ hf hi
    obtain ⟨n, rfl⟩ : ∃ n, fuel = n + 1 := ⟨fuel - 1, by omega⟩
    obtain ⟨σ', v1, v2, v3⟩ := ih n (i + 1) (fm_sI σ 97 i (σ.1 98 i)) (by omega) (by omega)
    refine ⟨σ', ?_, fun k i1 i2 => ?_, ?_⟩
    · rw [m_X12_undo_15]
      simp only [nu_lit, nI_add]
      rw [if_neg (by rw [nu_le (by omega) (by omega)]; omega), nu_in (by omega) (by decide), nu_g, nu_g, nu_let, nu_cl (by omega)]
      exact v1
    · by_cases e : k = i
      · subst e
        rw [v3.1 _ _ (by omega), nu_sI, if_pos ⟨rfl, rfl⟩]
      · rw [v2 k (by omega) i2, nu_sI, if_neg (by omega)]
    · exact fEq.tr (S2 := fun a k => a = 97 ∧ i + 1 ≤ k ∧ k < 96) (fEq.set (S := fun a k => a = 97 ∧ i ≤ k ∧ k < 96) ⟨rfl, Nat.le_refl _, by omega⟩) v3 (fun _ _ z => z) (fun a k z => ⟨z.1, by omega, z.2.2⟩)
theorem op_image {σ : fm_M} (h : Inv σ) : opS m_X11_image m_X12_image σ := by
  obtain ⟨hR, dy, np, ng, kd, jy, pr, k1, k2, k3, k4⟩ := id h
  obtain ⟨τ1, a1, a2, a3⟩ := ex_become (b := 33) (c := 8) (by omega) k1 k3
  have e1 : ∀ a k, ¬ (33 ≤ a ∧ a < 58) → ¬ (a = 0 ∧ k = 3) → (fm_sI τ1 0 3 (nI 1)).1 a k = σ.1 a k := fun a k i1 i2 => by rw [nu_sI, if_neg i2, a3.1 _ _ (fun z => i1 ⟨z.1, by have := z.2; omega⟩)]
  obtain ⟨τ2, b1, b2, b3⟩ := em_imageLoop (fun (x1_y5) (σ_y5) => fm_let (fm_sI σ_y5 96 3 (nI 1)) fun σ6 => (some ((nI 1), σ6))) 96 fm_fu 0 (fm_sI τ1 0 3 (nI 1)) (by have := nu_fu; omega) (by omega)
  have e2 : ∀ a k, ¬ (33 ≤ a ∧ a < 58) → ¬ (a = 0 ∧ k = 3) → a ≠ 98 → ¬ (a = 96 ∧ k = 3) → (fm_sI τ2 96 3 (nI 1)).1 a k = σ.1 a k := fun a k i1 i2 i3 i4 => by rw [nu_sI, if_neg i4, b3.1 _ _ (by omega), e1 _ _ i1 i2]
  have hr := rest_keep hR (σ2 := fm_sI τ2 96 3 (nI 1)) ⟨fun a k z => e2 a k (by unfold sG at z; omega) (by unfold sG at z; omega) (by unfold sG at z; omega) (by unfold sG at z; omega), by
    have : (fm_sI τ2 96 3 (nI 1)).2 = τ2.2 := rfl
    rw [this, b3.2]; exact a3.2⟩
  refine ⟨nI 1, fm_sI τ1 0 3 (nI 1), fm_sI τ2 96 3 (nI 1), ?_, ?_, ?_⟩
  · unfold m_X11_image
    simp only [nu_lit]
    rw [a1, nu_b, nu_let]
  · unfold m_X12_image
    simp only [nu_lit]
    rw [b1, nu_let]
  · refine ⟨⟨⟨?_, Or.inr ⟨?_, dy, np, ng, kd, jy, pr, k1, k2, ?_, ?_⟩⟩, hR.2.1.keep (e2 _ _ (by omega) (by omega) (by omega) (by omega)) (fun k => e2 _ _ (by omega) (by omega) (by omega) (by omega)) (e2 _ _ (by omega) (by omega) (by omega) (by omega)) (fun k => e2 _ _ (by omega) (by omega) (by omega) (by omega)), hr⟩, dy, np, ng, kd, jy, pr, k1, k2, k3.keep k1 (fun a k i1 i2 => e2 _ _ (by omega) (by omega) (by omega) (by omega)), k4.keep (fun k => e2 _ _ (by omega) (by omega) (by omega) (by omega))⟩
    · rw [nu_sI, if_pos ⟨rfl, rfl⟩, nu_sI, if_neg (by omega), b3.1 _ _ (by omega), nu_sI, if_pos ⟨rfl, rfl⟩]
    · rw [nu_sI, if_neg (by omega), b3.1 _ _ (by omega), nu_sI, if_pos ⟨rfl, rfl⟩]
    · exact a2.keep k1 (fun a k i1 i2 => by rw [nu_sI, if_neg (by omega), b3.1 _ _ (by omega), nu_sI, if_neg (by omega)])
    · have q : ∀ k, k < 96 → (fm_sI τ2 96 3 (nI 1)).1 98 k = σ.1 97 k := fun k hk => by rw [nu_sI, if_neg (by omega), b2 k (by omega) hk, e1 _ _ (by omega) (by omega)]
      obtain ⟨o1, o2, -, -, o5⟩ := k1
      exact ⟨by rw [q _ (by omega)]; exact k4.1, by rw [q _ (by omega)]; exact k4.2.1, by rw [q _ (by omega)]; exact k4.2.2.1, fun k hk => ⟨by rw [q _ (by omega)]; exact (k4.2.2.2.1 k hk).1, by rw [q _ (by omega)]; exact (k4.2.2.2.1 k hk).2⟩, fun g hg f hf => by
        have := (o5 g hg).1.1
        rw [q _ (by omega)]; exact k4.2.2.2.2 g hg f hf⟩
theorem op_undo {σ : fm_M} (h : Inv σ) : opS m_X11_undo m_X12_undo σ := by
  obtain ⟨hR, dy, np, ng, kd, jy, pr, k1, k2, k3, k4⟩ := id h
  obtain ⟨f1, f2⟩ := hR.1
  rcases f2 with z | ⟨z, dz, nz, gz, kz, jz, pz, l1, l2, l3, l4⟩
  · refine stp_find 3 (by decide) h ?_ (fun σ1 hs => ?_)
    · unfold m_X11_undo
      simp only [nu_lit, fnd3]
      rw [z, if_pos rfl]
    · unfold m_X12_undo
      simp only [nu_lit]
      rw [hs _ _ (by omega), f1, z, if_pos rfl]
  · obtain ⟨τ1, a1, a2, a3⟩ := ex_become (b := 8) (c := 33) (by omega) l1 l3
    have e1 : ∀ a k, ¬ (8 ≤ a ∧ a < 33) → τ1.1 a k = σ.1 a k := fun a k i1 => a3.1 _ _ (fun z => i1 ⟨z.1, by have := z.2; omega⟩)
    obtain ⟨τ2, b1, b2, b3⟩ := em_undoLoop (fun (x1_y5) (σ_y5) => fm_g (fm_in1 (nI 1) 96) (some ((σ_y5.1 97 (nI 1).toNatClampNeg), σ_y5))) 96 fm_fu 0 τ1 (by have := nu_fu; omega) (by omega)
    have q : ∀ k, k < 96 → τ2.1 97 k = σ.1 98 k := fun k hk => by rw [b2 k (by omega) hk, e1 _ _ (by omega)]
    have m2 : mTown τ2 97 dz nz gz kz jz pz := by
      obtain ⟨o1, o2, -, -, o5⟩ := l1
      exact ⟨by rw [q _ (by omega)]; exact l4.1, by rw [q _ (by omega)]; exact l4.2.1, by rw [q _ (by omega)]; exact l4.2.2.1, fun k hk => ⟨by rw [q _ (by omega)]; exact (l4.2.2.2.1 k hk).1, by rw [q _ (by omega)]; exact (l4.2.2.2.1 k hk).2⟩, fun g hg f hf => by
        have := (o5 g hg).1.1
        rw [q _ (by omega)]; exact l4.2.2.2.2 g hg f hf⟩
    refine ⟨nI nz, τ1, τ2, ?_, ?_, ?_⟩
    · unfold m_X11_undo
      simp only [nu_lit]
      rw [z, if_neg nI10, a1, nu_b, a2.2.1]
    · unfold m_X12_undo
      simp only [nu_lit]
      rw [e1 _ _ (by omega), f1, z, if_neg nI10, b1, nu_in (by decide) (by decide), nu_g, nu_cl (n := 1) (by omega), m2.2.1]
    · exact inv_of hR (fEq.tr (S := sTT) a3 b3 sB_T (fun a k y => Or.inr y.1)) sTT_R l1 l2 (a2.keep l1 (fun a k i1 i2 => b3.1 _ _ (by omega))) m2
-- counts
def bcF (a : Int32) : Int32 := ((m_J6_bitCount_0f7a4 a ((fun _ _ => 0), fun _ _ => 0)).map (fun o => o.1)).getD 0
theorem ex_bitCount (a : Int32) (σ : fm_M) : m_J6_bitCount_0f7a4 a σ = some (bcF a, σ) := id rfl
def blF : Nat → Int32 → Int32 → Option Int32
  | 0, _, _ => none
  | n + 1, z1, z2 => if z2 = nI 0 then some z1 else blF n (z1 + nI 1) (z2 &&& (z2 - nI 1))
theorem em_bitsLoop : ∀ (m fuel : Nat) (z1 z2 r : Int32) (σ : fm_M), m ≤ fuel → blF m z1 z2 = some r → m_X12_bits_4 (fun (x1_y1) (x2_y1) (σ_y1) => some (x1_y1, σ_y1)) fuel z1 z2 σ = some (r, σ) := by
  intro m
  induction m with
  | zero => intro fuel z1 z2 r σ hf h; rw [blF] at h; cases h
  | succ m ih =>
    intro fuel z1 z2 r σ hf h
    obtain ⟨n, rfl⟩ : ∃ n, fuel = n + 1 := ⟨fuel - 1, by omega⟩
    rw [blF] at h
    rw [m_X12_bits_4]
    simp only [nu_lit]
    by_cases z : z2 = nI 0
    · rw [if_pos z] at h ⊢
      cases h; rfl
    · rw [if_neg z] at h ⊢
      exact ih n _ _ r σ (by omega) h
theorem bl_bc : ∀ n, n < 256 → blF 9 (nI 0) (nI n) = some (bcF (nI n)) := by decide +kernel
theorem em_bits {σ : fm_M} {n : Nat} (h : n < 256) : m_X12_bits (nI n) σ = some (bcF (nI n), σ) := by
  unfold m_X12_bits
  simp only [nu_lit]
  exact em_bitsLoop 9 fm_fu (nI 0) (nI n) _ σ (by have := nu_fu; omega) (bl_bc n h)
theorem op_count (v : Int32) {σ : fm_M} (h : Inv σ) : opS (m_X11_count v) (m_X12_count v) σ := by
  obtain ⟨hR, dy, np, ng, kd, jy, pr, k1, k2, k3, k4⟩ := id h
  have o2 := k1.2.1
  obtain ⟨n, n1, n2, n3, n4⟩ := hR.2.1
  rcases nu_ix v (n := 4) (by decide) with ⟨w, hw, rfl⟩ | hv
  · have hw4 : w = 0 ∨ w = 1 ∨ w = 2 ∨ w = 3 := by omega
    rcases hw4 with rfl | rfl | rfl | rfl
    · refine stp_ask (nI np) h ?_ ?_
      · unfold m_X11_count
        simp only [nu_lit]
        rw [if_pos trivial, k3.2.1]
      · unfold m_X12_count
        simp only [nu_lit]
        rw [if_pos trivial, nu_in (by decide) (by decide), nu_g, nu_cl (n := 1) (by omega), k4.2.1]
    · refine stp_ask (nI ng) h ?_ ?_
      · unfold m_X11_count
        simp only [nu_lit]
        rw [if_neg (by decide), if_pos trivial, k3.2.2.1]
      · unfold m_X12_count
        simp only [nu_lit]
        rw [if_neg (by decide), if_pos trivial, nu_in (by decide) (by decide), nu_g, nu_cl (n := 2) (by omega), k4.2.2.1]
    · refine stp_ask (nI n) h ?_ ?_
      · unfold m_X11_count
        simp only [nu_lit]
        rw [if_neg (by decide), if_neg (by decide), if_pos trivial, n2]
      · unfold m_X12_count
        simp only [nu_lit]
        rw [if_neg (by decide), if_neg (by decide), if_pos trivial, n3]
    · refine stp_ask (bcF (nI (bset (fun i => decide (pr i 3 = 1)) ng))) h ?_ ?_
      · unfold m_X11_count
        simp only [nu_lit]
        rw [if_neg (by decide), if_neg (by decide), if_neg (by decide), if_pos trivial, ex_opened k1 k3, nu_b, ex_bitCount, nu_b]
      · unfold m_X12_count
        simp only [nu_lit]
        rw [if_neg (by decide), if_neg (by decide), if_neg (by decide), if_pos trivial, em_foundOnes k1 k4, nu_b, em_bits (bset_lt _ _ o2), nu_b]
  · have n0 := not_small hv (show 0 < 4 by decide) (by decide)
    have n1 := not_small hv (show 1 < 4 by decide) (by decide)
    have n2 := not_small hv (show 2 < 4 by decide) (by decide)
    have n3 := not_small hv (show 3 < 4 by decide) (by decide)
    refine stp_find 0 (by decide) h ?_ (fun σ1 hs => ?_)
    · unfold m_X11_count
      simp only [nu_lit, fnd0]
      rw [if_neg n0, if_neg n1, if_neg n2, if_neg n3]
    · unfold m_X12_count
      simp only [nu_lit]
      rw [if_neg n0, if_neg n1, if_neg n2, if_neg n3]
theorem ex_statLoop (kc : Int32 → Int32 → fm_M → Option (Int32 × fm_M)) {σ : fm_M} : m_X11_status_32 kc fm_fu (nI 0) (nI 0) σ = kc (nI 0 + σ.1 94 0 + σ.1 94 1 + σ.1 94 2 + σ.1 94 3 + σ.1 94 4 + σ.1 94 5 + σ.1 94 6) (nI 7) σ := by
  obtain ⟨n, hn⟩ : ∃ n, fm_fu = n + 8 := ⟨fm_fu - 8, by have := nu_fu; omega⟩
  rw [hn]
  rfl
theorem em_statLoop (kc : Int32 → Int32 → Int32 → fm_M → Option (Int32 × fm_M)) {σ : fm_M} : m_X12_status_20 kc fm_fu (-nI 1) (nI 0) (nI 0) σ = kc (-nI 1) (nI 0 + σ.1 100 0 + σ.1 100 1 + σ.1 100 2 + σ.1 100 3 + σ.1 100 4 + σ.1 100 5 + σ.1 100 6) (nI 7) σ := by
  obtain ⟨n, hn⟩ : ∃ n, fm_fu = n + 8 := ⟨fm_fu - 8, by have := nu_fu; omega⟩
  rw [hn]
  rfl
theorem em_statOne (kc : Int32 → Int32 → Int32 → fm_M → Option (Int32 × fm_M)) {σ : fm_M} {j : Nat} (hj : j < 7) : m_X12_status_20 kc fm_fu (nI j) (nI 0) (nI 0) σ = kc (nI j) (σ.1 100 j) (nI 7) σ := by
  obtain ⟨n, hn⟩ : ∃ n, fm_fu = n + 8 := ⟨fm_fu - 8, by have := nu_fu; omega⟩
  rw [hn]
  have e : j = 0 ∨ j = 1 ∨ j = 2 ∨ j = 3 ∨ j = 4 ∨ j = 5 ∨ j = 6 := by omega
  have a0 : ∀ x : Int32, x + nI 0 = x := fun x => Int32.add_zero x
  have a1 : ∀ x : Int32, nI 0 + x = x := fun x => Int32.zero_add x
  rcases e with rfl | rfl | rfl | rfl | rfl | rfl | rfl
  · exact (show _ = kc (nI 0) (nI 0 + σ.1 100 0 + nI 0 + nI 0 + nI 0 + nI 0 + nI 0 + nI 0) (nI 7) σ from rfl).trans (by rw [a1, a0, a0, a0, a0, a0, a0])
  · exact (show _ = kc (nI 1) (nI 0 + nI 0 + σ.1 100 1 + nI 0 + nI 0 + nI 0 + nI 0 + nI 0) (nI 7) σ from rfl).trans (by rw [a1, a1, a0, a0, a0, a0, a0])
  · exact (show _ = kc (nI 2) (nI 0 + nI 0 + nI 0 + σ.1 100 2 + nI 0 + nI 0 + nI 0 + nI 0) (nI 7) σ from rfl).trans (by rw [a1, a1, a1, a0, a0, a0, a0])
  · exact (show _ = kc (nI 3) (nI 0 + nI 0 + nI 0 + nI 0 + σ.1 100 3 + nI 0 + nI 0 + nI 0) (nI 7) σ from rfl).trans (by rw [a1, a1, a1, a1, a0, a0, a0])
  · exact (show _ = kc (nI 4) (nI 0 + nI 0 + nI 0 + nI 0 + nI 0 + σ.1 100 4 + nI 0 + nI 0) (nI 7) σ from rfl).trans (by rw [a1, a1, a1, a1, a1, a0, a0])
  · exact (show _ = kc (nI 5) (nI 0 + nI 0 + nI 0 + nI 0 + nI 0 + nI 0 + σ.1 100 5 + nI 0) (nI 7) σ from rfl).trans (by rw [a1, a1, a1, a1, a1, a1, a0])
  · exact (show _ = kc (nI 6) (nI 0 + nI 0 + nI 0 + nI 0 + nI 0 + nI 0 + nI 0 + σ.1 100 6) (nI 7) σ from rfl).trans (by rw [a1, a1, a1, a1, a1, a1, a1])
theorem stat_ix (x : Int32) : x = -nI 1 ∨ (∃ j, j < 7 ∧ x = nI j) ∨ ¬ (-nI 1 ≤ x ∧ x ≤ nI 6) := by
  rcases nu_ix x (n := 7) (by decide) with z | z | z
  · exact Or.inr (Or.inl z)
  · by_cases y : x = -nI 1
    · exact Or.inl y
    · refine Or.inr (Or.inr (fun q => y ?_))
      have h1 : x.toInt < 0 := Int32.lt_iff_toInt_lt.mp z
      have h2 : (-1 : Int) ≤ x.toInt := Int32.le_iff_toInt_le.mp q.1
      apply Int32.toInt_inj.mp
      have h3 : (-nI 1 : Int32).toInt = -1 := by decide
      rw [h3]; omega
  · refine Or.inr (Or.inr (fun q => ?_))
    exact absurd (Int32.le_trans z q.2) (by decide)
theorem op_status (v : Int32) {σ : fm_M} (h : Inv σ) : opS (m_X11_status v) (m_X12_status v) σ := by
  have hF := h.1.2.2.2.1
  rcases stat_ix v with rfl | ⟨j, hj, rfl⟩ | hv
  · refine stp_ask (nI 0 + σ.1 94 0 + σ.1 94 1 + σ.1 94 2 + σ.1 94 3 + σ.1 94 4 + σ.1 94 5 + σ.1 94 6) h ?_ ?_
    · unfold m_X11_status
      simp only [nu_lit]
      rw [em_within, if_pos (by decide), nu_b, if_neg nI10, if_pos (by decide), ex_statLoop]
    · unfold m_X12_status
      simp only [nu_lit]
      rw [em_in1, if_pos (by decide), nu_b, if_neg nI10, em_statLoop, hF 0 (by omega), hF 1 (by omega), hF 2 (by omega), hF 3 (by omega), hF 4 (by omega), hF 5 (by omega), hF 6 (by omega)]
  · have w : -nI 1 ≤ nI j ∧ nI j ≤ nI 6 := ⟨Int32.le_trans (show -nI 1 ≤ nI 0 by decide) (by rw [nu_le (by omega) (by omega)]; omega), by rw [nu_le (by omega) (by omega)]; omega⟩
    refine stp_ask (σ.1 94 j) h ?_ ?_
    · unfold m_X11_status
      simp only [nu_lit]
      rw [em_within, if_pos w, nu_b, if_neg nI10, if_neg (by rw [nu_lt (by omega) (by omega)]; omega), nu_in hj (by decide), nu_g, nu_cl (by omega)]
    · unfold m_X12_status
      simp only [nu_lit]
      rw [em_in1, if_pos w, nu_b, if_neg nI10, em_statOne _ hj, hF j hj]
  · refine stp_find 0 (by decide) h ?_ (fun σ1 hs => ?_)
    · unfold m_X11_status
      simp only [nu_lit, fnd0]
      rw [em_within, if_neg hv, nu_b, if_pos rfl]
    · unfold m_X12_status
      simp only [nu_lit]
      rw [em_in1, if_neg hv, nu_b, if_pos rfl]
