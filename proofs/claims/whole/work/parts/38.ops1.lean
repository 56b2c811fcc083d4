/-! CALLS, one by one -/
theorem xTown.setJ {σ : fm_M} {b dy np ng j v : Nat} {kd jy : Nat → Nat} {pr : Nat → Nat → Nat} (h : xTown σ b dy np ng kd jy pr) (ho : tOk dy np ng kd jy pr) (hj : j < np) : xTown (fm_sI σ (b + 2 + j) 1 (nI v)) b dy np ng kd (fun k => if k = j then v else jy k) pr := by
  obtain ⟨o1, o2, -⟩ := ho
  obtain ⟨h1, h2, h3, h4, h5⟩ := h
  refine ⟨by rw [nu_sI, if_neg (by omega)]; exact h1, by rw [nu_sI, if_neg (by omega)]; exact h2, by rw [nu_sI, if_neg (by omega)]; exact h3, fun k hk => ⟨by rw [nu_sI, if_neg (by omega)]; exact (h4 k hk).1, ?_⟩, fun g hg => (h5 g hg).out (fun k => by rw [nu_sI, if_neg (by omega)]) (fun k => by rw [nu_sI, if_neg (by omega)])⟩
  rw [nu_sI]
  dsimp only
  by_cases e : k = j
  · subst e; rw [if_pos ⟨rfl, rfl⟩, if_pos rfl]
  · rw [if_neg (by omega), if_neg e]; exact (h4 k hk).2
theorem xTown.setK {σ : fm_M} {b dy np ng j v : Nat} {kd jy : Nat → Nat} {pr : Nat → Nat → Nat} (h : xTown σ b dy np ng kd jy pr) (ho : tOk dy np ng kd jy pr) (hj : j < np) : xTown (fm_sI σ (b + 2 + j) 0 (nI v)) b dy np ng (fun k => if k = j then v else kd k) jy pr := by
  obtain ⟨o1, o2, -⟩ := ho
  obtain ⟨h1, h2, h3, h4, h5⟩ := h
  refine ⟨by rw [nu_sI, if_neg (by omega)]; exact h1, by rw [nu_sI, if_neg (by omega)]; exact h2, by rw [nu_sI, if_neg (by omega)]; exact h3, fun k hk => ⟨?_, by rw [nu_sI, if_neg (by omega)]; exact (h4 k hk).2⟩, fun g hg => (h5 g hg).out (fun k => by rw [nu_sI, if_neg (by omega)]) (fun k => by rw [nu_sI, if_neg (by omega)])⟩
  rw [nu_sI]
  dsimp only
  by_cases e : k = j
  · subst e; rw [if_pos ⟨rfl, rfl⟩, if_pos rfl]
  · rw [if_neg (by omega), if_neg e]; exact (h4 k hk).1
theorem xTown.setP {σ σ' : fm_M} {b dy np ng g : Nat} {kd jy x : Nat → Nat} {pr : Nat → Nat → Nat} (h : xTown σ b dy np ng kd jy pr) (ho : tOk dy np ng kd jy pr) (hx : xRec σ' (b + 9 + 2 * g) x) (hf : fEq (sA (b + 9 + 2 * g)) σ σ') : xTown σ' b dy np ng kd jy (fun i => if i = g then x else pr i) := by
  obtain ⟨o1, o2, -⟩ := ho
  obtain ⟨h1, h2, h3, h4, h5⟩ := h
  have e : ∀ a k, a ≠ b + 9 + 2 * g → a ≠ b + 9 + 2 * g + 1 → σ'.1 a k = σ.1 a k := fun a k i1 i2 => hf.1 _ _ (fun z => z.elim i1 i2)
  refine ⟨by rw [e _ _ (by omega) (by omega)]; exact h1, by rw [e _ _ (by omega) (by omega)]; exact h2, by rw [e _ _ (by omega) (by omega)]; exact h3, fun k hk => ⟨by rw [e _ _ (by omega) (by omega)]; exact (h4 k hk).1, by rw [e _ _ (by omega) (by omega)]; exact (h4 k hk).2⟩, fun i hi => ?_⟩
  by_cases z : i = g
  · subst z; simp only [if_true]; exact hx
  · simp only [if_neg z]; exact (h5 i hi).out (fun k => e _ _ (by omega) (by omega)) (fun k => e _ _ (by omega) (by omega))
theorem mTown.setJ {σ : fm_M} {dy np ng j v : Nat} {kd jy : Nat → Nat} {pr : Nat → Nat → Nat} (h : mTown σ 97 dy np ng kd jy pr) (ho : tOk dy np ng kd jy pr) (hj : j < np) : mTown (fm_sI σ 97 (5 + 2 * j) (nI v)) 97 dy np ng kd (fun k => if k = j then v else jy k) pr := by
  obtain ⟨o1, o2, -⟩ := ho
  obtain ⟨h1, h2, h3, h4, h5⟩ := h
  refine ⟨by rw [nu_sI, if_neg (by omega)]; exact h1, by rw [nu_sI, if_neg (by omega)]; exact h2, by rw [nu_sI, if_neg (by omega)]; exact h3, fun k hk => ⟨by rw [nu_sI, if_neg (by omega)]; exact (h4 k hk).1, ?_⟩, fun g hg f hf => by rw [nu_sI, if_neg (by omega)]; exact h5 g hg f hf⟩
  rw [nu_sI]
  dsimp only
  by_cases e : k = j
  · subst e; rw [if_pos ⟨rfl, rfl⟩, if_pos rfl]
  · rw [if_neg (by omega), if_neg e]; exact (h4 k hk).2
theorem mTown.setK {σ : fm_M} {dy np ng j v : Nat} {kd jy : Nat → Nat} {pr : Nat → Nat → Nat} (h : mTown σ 97 dy np ng kd jy pr) (ho : tOk dy np ng kd jy pr) (hj : j < np) : mTown (fm_sI σ 97 (4 + 2 * j) (nI v)) 97 dy np ng (fun k => if k = j then v else kd k) jy pr := by
  obtain ⟨o1, o2, -⟩ := ho
  obtain ⟨h1, h2, h3, h4, h5⟩ := h
  refine ⟨by rw [nu_sI, if_neg (by omega)]; exact h1, by rw [nu_sI, if_neg (by omega)]; exact h2, by rw [nu_sI, if_neg (by omega)]; exact h3, fun k hk => ⟨?_, by rw [nu_sI, if_neg (by omega)]; exact (h4 k hk).2⟩, fun g hg f hf => by rw [nu_sI, if_neg (by omega)]; exact h5 g hg f hf⟩
  rw [nu_sI]
  dsimp only
  by_cases e : k = j
  · subst e; rw [if_pos ⟨rfl, rfl⟩, if_pos rfl]
  · rw [if_neg (by omega), if_neg e]; exact (h4 k hk).1
theorem mTown.setP {σ σ' : fm_M} {dy np ng g : Nat} {kd jy x : Nat → Nat} {pr : Nat → Nat → Nat} (h : mTown σ 97 dy np ng kd jy pr) (ho : tOk dy np ng kd jy pr) (hx : mRec σ' 97 g x) (hf : fEq (sP g) σ σ') : mTown σ' 97 dy np ng kd jy (fun i => if i = g then x else pr i) := by
  obtain ⟨o1, o2, o3, o4, o5⟩ := ho
  obtain ⟨h1, h2, h3, h4, h5⟩ := h
  have e : ∀ k, k < 16 + 10 * g ∨ 26 + 10 * g ≤ k → σ'.1 97 k = σ.1 97 k := fun k i1 => hf.1 _ _ (fun z => by have := z.2.1; have := z.2.2; omega)
  refine ⟨by rw [e _ (by omega)]; exact h1, by rw [e _ (by omega)]; exact h2, by rw [e _ (by omega)]; exact h3, fun k hk => ⟨by rw [e _ (by omega)]; exact (h4 k hk).1, by rw [e _ (by omega)]; exact (h4 k hk).2⟩, fun i hi => ?_⟩
  by_cases z : i = g
  · subst z; simp only [if_true]; exact hx
  · simp only [if_neg z]
    intro f hf2
    have := (o5 i hi).1.1
    rw [e _ (by omega)]; exact h5 i hi f hf2
theorem tOk.setJ {dy np ng j v : Nat} {kd jy : Nat → Nat} {pr : Nat → Nat → Nat} (h : tOk dy np ng kd jy pr) (hv : v ≤ 9999) : tOk dy np ng kd (fun k => if k = j then v else jy k) pr := ⟨h.1, h.2.1, h.2.2.1, fun k hk => ⟨(h.2.2.2.1 k hk).1, by dsimp only; split; exact hv; exact (h.2.2.2.1 k hk).2⟩, h.2.2.2.2⟩
theorem tOk.setK {dy np ng j v : Nat} {kd jy : Nat → Nat} {pr : Nat → Nat → Nat} (h : tOk dy np ng kd jy pr) (hv : v < 6) : tOk dy np ng (fun k => if k = j then v else kd k) jy pr := ⟨h.1, h.2.1, h.2.2.1, fun k hk => ⟨by dsimp only; split; exact hv; exact (h.2.2.2.1 k hk).1, (h.2.2.2.1 k hk).2⟩, h.2.2.2.2⟩
theorem tOk.setP {dy np ng g : Nat} {kd jy x : Nat → Nat} {pr : Nat → Nat → Nat} (h : tOk dy np ng kd jy pr) (hx : rOk x) (h2 : x 2 < np) : tOk dy np ng kd jy (fun i => if i = g then x else pr i) := ⟨h.1, h.2.1, h.2.2.1, h.2.2.2.1, fun i hi => by dsimp only; split; exact ⟨hx, h2⟩; exact h.2.2.2.2 i hi⟩
theorem eM.of {S : Nat → Nat → Prop} {σ σ1 : fm_M} (h : fEq S σ σ1) (hd : ∀ a k, S a k → a < 96) : eM σ σ1 := fun a k ha => h.1 a k (fun z => by have := hd a k z; omega)
/-- the end of a call that changes the town on both sides -/
theorem inv_of {σ σ2 : fm_M} {S : Nat → Nat → Prop} {dy np ng : Nat} {kd jy : Nat → Nat} {pr : Nat → Nat → Nat} (h : iR σ) (hf : fEq S σ σ2) (hd : ∀ a k, sR a k → ¬ S a k) (k1 : tOk dy np ng kd jy pr) (k2 : dy ≤ 9999) (k3 : xTown σ2 8 dy np ng kd jy pr) (k4 : mTown σ2 97 dy np ng kd jy pr) : Inv σ2 := ⟨h.keep hf hd, dy, np, ng, kd, jy, pr, k1, k2, k3, k4⟩
/-- what a town's own cells are -/
def sTT : Nat → Nat → Prop := fun a k => (8 ≤ a ∧ a < 33) ∨ a = 97
theorem sTT_R : ∀ a k, sR a k → ¬ sTT a k := fun a k h z => by unfold sR at h; unfold sTT at z; omega
theorem op_joy (x v : Int32) {σ : fm_M} (h : Inv σ) : opS (m_X11_joy x v) (m_X12_joy x v) σ := by
  obtain ⟨hR, dy, np, ng, kd, jy, pr, k1, k2, k3, k4⟩ := id h
  have o1 := k1.1
  rcases nu_ix x (n := np) (by omega) with ⟨j, hj, rfl⟩ | hx
  · rcases nu_ix v (n := 10000) (by decide) with ⟨w, hw, rfl⟩ | hv
    · have hf1 : fEq sTT σ (fm_sI σ (8 + 2 + j) 1 (nI w)) := fEq.set (Or.inl ⟨by omega, by omega⟩)
      have m1 := k4.keep (fun k => (eM.of (S := fun a k => 8 ≤ a ∧ a < 33) (fEq.set ⟨by omega, by omega⟩) (fun a k z => by omega) : eM σ (fm_sI σ (8 + 2 + j) 1 (nI w))) 97 k (by omega))
      refine ⟨nI (jy j), fm_sI σ (8 + 2 + j) 1 (nI w), fm_sI (fm_sI σ (8 + 2 + j) 1 (nI w)) 97 (5 + 2 * j) (nI w), ?_, ?_, ?_⟩
      · unfold m_X11_joy
        simp only [nu_lit]
        rw [ex_isPersonT k3.2.1 o1 hj, nu_b, if_neg nI10, ex_wT (by omega) (by omega) (by decide), nu_b, if_neg nI10, nu_in (by omega) (by decide), nu_g, nu_g, nu_let, nu_cl (by omega), (k3.2.2.2.1 j hj).2]
      · unfold m_X12_joy
        simp only [nu_lit]
        rw [em_isPersonT m1.2.1 o1 hj, nu_b, if_neg nI10, em_in1T _ (by omega) (by omega) (by decide), nu_b, if_neg nI10, em_get _ (by omega), nu_b, em_puts _ (by omega), nu_b, show 4 + 2 * j + 1 = 5 + 2 * j by omega, (m1.2.2.2.1 j hj).2]
      · exact inv_of hR (fEq.tr (S1 := sTT) hf1 (fEq.set (S := sTT) (Or.inr rfl)) (fun _ _ z => z) (fun _ _ z => z)) sTT_R (k1.setJ (by omega)) k2 ((k3.setJ k1 hj).keep (k1.setJ (by omega)) (fun a k i1 i2 => by rw [nu_sI, if_neg (by omega)])) (m1.setJ k1 hj)
    · refine stp_find 0 (by decide) h ?_ (fun σ1 hs => ?_)
      · unfold m_X11_joy
        simp only [nu_lit, fnd0]
        rw [ex_isPersonT k3.2.1 o1 hj, nu_b, if_neg nI10, ex_wF hv (by decide), nu_b, if_pos rfl]
      · have m1 := k4.keep (fun k => hs 97 k (by omega))
        unfold m_X12_joy
        simp only [nu_lit]
        rw [em_isPersonT m1.2.1 o1 hj, nu_b, if_neg nI10, em_wF hv (by decide), nu_b, if_pos rfl]
  · refine stp_find 0 (by decide) h ?_ (fun σ1 hs => ?_)
    · unfold m_X11_joy
      simp only [nu_lit, fnd0]
      rw [ex_isPersonF k3.2.1 o1 hx, nu_b, if_pos rfl]
    · have m1 := k4.keep (fun k => hs 97 k (by omega))
      unfold m_X12_joy
      simp only [nu_lit]
      rw [em_isPersonF m1.2.1 o1 hx, nu_b, if_pos rfl]
theorem op_turn (x v : Int32) {σ : fm_M} (h : Inv σ) : opS (m_X11_turn x v) (m_X12_turn x v) σ := by
  obtain ⟨hR, dy, np, ng, kd, jy, pr, k1, k2, k3, k4⟩ := id h
  have o1 := k1.1
  rcases nu_ix x (n := np) (by omega) with ⟨j, hj, rfl⟩ | hx
  · rcases nu_ix v (n := 6) (by decide) with ⟨w, hw, rfl⟩ | hv
    · have hf1 : fEq sTT σ (fm_sI σ (8 + 2 + j) 0 (nI w)) := fEq.set (Or.inl ⟨by omega, by omega⟩)
      have m1 := k4.keep (fun k => (eM.of (S := fun a k => 8 ≤ a ∧ a < 33) (fEq.set ⟨by omega, by omega⟩) (fun a k z => by omega) : eM σ (fm_sI σ (8 + 2 + j) 0 (nI w))) 97 k (by omega))
      refine ⟨nI (kd j), fm_sI σ (8 + 2 + j) 0 (nI w), fm_sI (fm_sI σ (8 + 2 + j) 0 (nI w)) 97 (4 + 2 * j) (nI w), ?_, ?_, ?_⟩
      · unfold m_X11_turn
        simp only [nu_lit]
        rw [ex_isPersonT k3.2.1 o1 hj, nu_b, if_neg nI10, ex_isKindT hw, nu_b, if_neg nI10, nu_in (by omega) (by decide), nu_g, nu_g, nu_let, nu_cl (by omega), (k3.2.2.2.1 j hj).1]
      · unfold m_X12_turn
        simp only [nu_lit]
        rw [em_isPersonT m1.2.1 o1 hj, nu_b, if_neg nI10, em_in1T _ (by omega) (by omega) (by decide), nu_b, if_neg nI10, em_get _ (by omega), nu_b, em_puts _ (by omega), nu_b, show 4 + 2 * j + 0 = 4 + 2 * j by omega, (m1.2.2.2.1 j hj).1]
      · exact inv_of hR (fEq.tr (S1 := sTT) hf1 (fEq.set (S := sTT) (Or.inr rfl)) (fun _ _ z => z) (fun _ _ z => z)) sTT_R (k1.setK hw) k2 ((k3.setK k1 hj).keep (k1.setK hw) (fun a k i1 i2 => by rw [nu_sI, if_neg (by omega)])) (m1.setK k1 hj)
    · refine stp_find 0 (by decide) h ?_ (fun σ1 hs => ?_)
      · unfold m_X11_turn
        simp only [nu_lit, fnd0]
        rw [ex_isPersonT k3.2.1 o1 hj, nu_b, if_neg nI10, ex_isKindF hv, nu_b, if_pos rfl]
      · have m1 := k4.keep (fun k => hs 97 k (by omega))
        unfold m_X12_turn
        simp only [nu_lit]
        rw [em_isPersonT m1.2.1 o1 hj, nu_b, if_neg nI10, em_wF hv (by decide), nu_b, if_pos rfl]
  · refine stp_find 0 (by decide) h ?_ (fun σ1 hs => ?_)
    · unfold m_X11_turn
      simp only [nu_lit, fnd0]
      rw [ex_isPersonF k3.2.1 o1 hx, nu_b, if_pos rfl]
    · have m1 := k4.keep (fun k => hs 97 k (by omega))
      unfold m_X12_turn
      simp only [nu_lit]
      rw [em_isPersonF m1.2.1 o1 hx, nu_b, if_pos rfl]
