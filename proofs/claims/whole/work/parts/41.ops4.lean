theorem xRec.set {σ : fm_M} {a f v : Nat} {x : Nat → Nat} (h : xRec σ a x) (h1 : 1 ≤ f) (h4 : f < 4) : xRec (fm_sI σ a (f + 1) (nI v)) a (rSet x f v) := by
  have e0 : rSet x f v 0 = x 0 := by unfold rSet; rw [if_neg (by omega)]
  refine ⟨fun g hg => ?_, fun i hi => ?_⟩
  · rw [nu_sI]
    by_cases z : g = f
    · subst z; rw [if_pos ⟨rfl, rfl⟩]; simp [rSet]
    · rw [if_neg (by omega), h.1 g hg]; simp [rSet, z]
  · rw [e0] at hi
    have e1 : rSet x f v (4 + i) = x (4 + i) := by unfold rSet; rw [if_neg (by omega)]
    rw [nu_sI, if_neg (by omega), e0, e1]; exact h.2 i hi
theorem mRec.set {σ : fm_M} {p f v : Nat} {x : Nat → Nat} (h : mRec σ 97 p x) (h1 : 1 ≤ f) (h4 : f < 4) : mRec (fm_sI σ 97 (16 + 10 * p + f) (nI v)) 97 p (rSet x f v) := by
  intro g hg
  have e0 : rSet x f v 0 = x 0 := by unfold rSet; rw [if_neg (by omega)]
  rw [e0] at hg
  rw [nu_sI]
  by_cases z : g = f
  · subst z; rw [if_pos ⟨rfl, rfl⟩]; simp [rSet]
  · rw [if_neg (by omega), h g hg]; simp [rSet, z]
theorem rSet_ok1 {x : Nat → Nat} {v : Nat} (h : rOk x) (hv : v ≤ 99) : rOk (rSet x 1 v) := by
  obtain ⟨h1, h2, h3, h4⟩ := h
  refine ⟨by simp [rSet]; omega, by simp [rSet]; omega, by simp [rSet]; omega, fun i hi => ?_⟩
  have hi : i < x 0 := by simpa [rSet] using hi
  have : rSet x 1 v (4 + i) = x (4 + i) := by simp [rSet]; omega
  rw [this]
  exact h4 i hi
theorem op_set (x w v : Int32) {σ : fm_M} (h : Inv σ) : opS (m_X11_set x w v) (m_X12_set x w v) σ := by
  obtain ⟨hR, dy, np, ng, kd, jy, pr, k1, k2, k3, k4⟩ := id h
  have o1 := k1.1
  have o2 := k1.2.1
  rcases nu_ix x (n := ng) (by omega) with ⟨j, hj, rfl⟩ | hx
  · obtain ⟨hr, hr2⟩ := k1.2.2.2.2 j hj
    have xj := k3.2.2.2.2 j hj
    by_cases w1 : w = nI 1
    · subst w1
      rcases nu_ix v (n := 100) (by decide) with ⟨t, ht, rfl⟩ | hv
      · have m1 : mTown (fm_sI σ (8 + 9 + 2 * j) 2 (nI t)) 97 dy np ng kd jy pr := k4.keep (fun k => by rw [nu_sI, if_neg (by omega)])
        refine ⟨nI (pr j 1), fm_sI σ (8 + 9 + 2 * j) 2 (nI t), fm_sI (fm_sI σ (8 + 9 + 2 * j) 2 (nI t)) 97 (16 + 10 * j + 1) (nI t), ?_, ?_, ?_⟩
        · unfold m_X11_set
          simp only [nu_lit]
          rw [ex_isPresentT k3.2.2.1 o2 hj, nu_b, if_neg nI10, nu_in (by omega) (by decide), nu_g, if_pos trivial, ex_isThingT ht, nu_b, if_neg nI10, nu_let, nu_cl (by omega), xj.1 1 (by omega)]
        · unfold m_X12_set
          simp only [nu_lit, nu_j]
          rw [em_isPresentT m1.2.2.1 o2 hj, nu_b, if_neg nI10, em_in1T _ (by omega) (by omega) (by decide), nu_b, if_neg nI10, if_pos trivial, em_in1T _ (by omega) (by omega) (by decide), nu_b, if_neg nI10, em_of1 _ (by omega), nu_b, em_lays1 _ (by omega), nu_b, m1.2.2.2.2 j hj 1 (by omega)]
        · exact inv_P hR k1 k2 k3 k4 hj (rSet_ok1 hr (by omega)) (by simp [rSet]; exact hr2) (xj.set (f := 1) (by omega) (by omega)) (fEq.set (Or.inl rfl)) ((m1.2.2.2.2 j hj).set (by omega) (by omega)) (fEq.set ⟨rfl, by omega, by omega⟩)
      · refine stp_find 0 (by decide) h ?_ (fun σ1 hs => ?_)
        · unfold m_X11_set
          simp only [nu_lit, fnd0]
          rw [ex_isPresentT k3.2.2.1 o2 hj, nu_b, if_neg nI10, nu_in (by omega) (by decide), nu_g, if_pos trivial, ex_isThingF hv, nu_b, if_pos rfl, if_neg (by decide)]
        · have m1 := k4.keep (fun k => hs 97 k (by omega))
          unfold m_X12_set
          simp only [nu_lit, nu_j]
          rw [em_isPresentT m1.2.2.1 o2 hj, nu_b, if_neg nI10, em_in1T _ (by omega) (by omega) (by decide), nu_b, if_neg nI10, if_pos trivial, em_wF hv (by decide), nu_b, if_pos rfl]
    · by_cases w2 : w = nI 2
      · subst w2
        rcases nu_ix v (n := np) (by omega) with ⟨t, ht, rfl⟩ | hv
        · have m1 : mTown (fm_sI σ (8 + 9 + 2 * j) 3 (nI t)) 97 dy np ng kd jy pr := k4.keep (fun k => by rw [nu_sI, if_neg (by omega)])
          refine ⟨nI (pr j 2), fm_sI σ (8 + 9 + 2 * j) 3 (nI t), fm_sI (fm_sI σ (8 + 9 + 2 * j) 3 (nI t)) 97 (16 + 10 * j + 2) (nI t), ?_, ?_, ?_⟩
          · unfold m_X11_set
            simp only [nu_lit]
            rw [ex_isPresentT k3.2.2.1 o2 hj, nu_b, if_neg nI10, nu_in (by omega) (by decide), nu_g, if_neg (by decide), if_pos trivial, ex_isPersonT k3.2.1 o1 ht, nu_b, if_neg nI10, nu_let, nu_cl (by omega), xj.1 2 (by omega)]
          · unfold m_X12_set
            simp only [nu_lit, nu_j]
            rw [em_isPresentT m1.2.2.1 o2 hj, nu_b, if_neg nI10, em_in1T _ (by omega) (by omega) (by decide), nu_b, if_neg nI10, if_neg (by decide), nu_in (by decide) (by decide), nu_g, nu_cl (n := 1) (by omega), m1.2.1, nu_sub (by omega), em_in1T _ (by omega) (by omega) (by omega), nu_b, if_neg nI10, em_of1 _ (by omega), nu_b, em_lays1 _ (by omega), nu_b, m1.2.2.2.2 j hj 2 (by omega)]
          · exact inv_P hR k1 k2 k3 k4 hj (rSet_ok2 hr) (by simp [rSet]; exact ht) (xj.set (f := 2) (by omega) (by omega)) (fEq.set (Or.inl rfl)) ((m1.2.2.2.2 j hj).set (by omega) (by omega)) (fEq.set ⟨rfl, by omega, by omega⟩)
        · refine stp_find 0 (by decide) h ?_ (fun σ1 hs => ?_)
          · unfold m_X11_set
            simp only [nu_lit, fnd0]
            rw [ex_isPresentT k3.2.2.1 o2 hj, nu_b, if_neg nI10, nu_in (by omega) (by decide), nu_g, if_neg (by decide), if_pos trivial, ex_isPersonF k3.2.1 o1 hv, nu_b, if_pos rfl]
          · have m1 := k4.keep (fun k => hs 97 k (by omega))
            unfold m_X12_set
            simp only [nu_lit, nu_j]
            rw [em_isPresentT m1.2.2.1 o2 hj, nu_b, if_neg nI10, em_in1T _ (by omega) (by omega) (by decide), nu_b, if_neg nI10, if_neg (by decide), nu_in (by decide) (by decide), nu_g, nu_cl (n := 1) (by omega), m1.2.1, em_in1, if_neg (in_F0 hv (by omega)), nu_b, if_pos rfl]
      · refine stp_find 0 (by decide) h ?_ (fun σ1 hs => ?_)
        · unfold m_X11_set
          simp only [nu_lit, fnd0]
          rw [ex_isPresentT k3.2.2.1 o2 hj, nu_b, if_neg nI10, nu_in (by omega) (by decide), nu_g, if_neg w1, if_neg w2]
        · have m1 := k4.keep (fun k => hs 97 k (by omega))
          unfold m_X12_set
          simp only [nu_lit, nu_j]
          rw [em_isPresentT m1.2.2.1 o2 hj, nu_b, if_neg nI10, em_in1, if_neg ?_, nu_b, if_pos rfl]
          rintro ⟨a1, a2⟩
          rcases nu_ix w (n := 3) (by decide) with ⟨t, ht, rfl⟩ | hw
          · rw [nu_le (by decide) (by omega)] at a1
            rw [nu_le (by omega) (by decide)] at a2
            rw [nu_eq (by omega) (by decide)] at w1 w2
            omega
          · rcases hw with hw | hw
            · have := Int32.le_trans (show nI 0 ≤ nI 1 by decide) a1
              exact neg_no hw this
            · have := Int32.le_trans hw a2
              exact absurd this (by decide)
  · refine stp_find 0 (by decide) h ?_ (fun σ1 hs => ?_)
    · unfold m_X11_set
      simp only [nu_lit, fnd0]
      rw [ex_isPresentF k3.2.2.1 o2 hx, nu_b, if_pos rfl]
    · have m1 := k4.keep (fun k => hs 97 k (by omega))
      unfold m_X12_set
      simp only [nu_lit, nu_j]
      rw [em_isPresentF m1.2.2.1 o2 hx, nu_b, if_pos rfl]
-- one more
theorem tOk.addK {dy np ng w : Nat} {kd jy : Nat → Nat} {pr : Nat → Nat → Nat} (h : tOk dy np ng kd jy pr) (hn : np < 6) (hw : w < 6) : tOk dy (np + 1) ng (fun k => if k = np then w else kd k) (fun k => if k = np then 0 else jy k) pr := ⟨by omega, h.2.1, h.2.2.1, fun k hk => by
    dsimp only
    by_cases z : k = np
    · rw [if_pos z, if_pos z]; exact ⟨hw, by omega⟩
    · rw [if_neg z, if_neg z]; exact h.2.2.2.1 k (by omega), fun g hg => ⟨(h.2.2.2.2 g hg).1, by have := (h.2.2.2.2 g hg).2; omega⟩⟩
theorem ex_addPerson {σ : fm_M} {b dy np ng w : Nat} {kd jy : Nat → Nat} {pr : Nat → Nat → Nat} (ho : tOk dy np ng kd jy pr) (ht : xTown σ b dy np ng kd jy pr) (hn : np < 6) : ∃ σ', m_X10_addPerson b (nI w) σ = some (nI np, σ') ∧ xTown σ' b dy (np + 1) ng (fun k => if k = np then w else kd k) (fun k => if k = np then 0 else jy k) pr ∧ fEq (sB b) σ σ' := by
  obtain ⟨o1, o2, -⟩ := ho
  obtain ⟨h1, h2, h3, h4, h5⟩ := ht
  unfold m_X10_addPerson
  simp only [nu_lit]
  have e1 : (fm_sI σ (b + 2 + np) 0 (nI w)).1 b 4 = nI np := by rw [nu_sI, if_neg (by omega)]; exact h2
  have e2 : (fm_sI (fm_sI σ (b + 2 + np) 0 (nI w)) (b + 2 + np) 1 (nI 0)).1 b 4 = nI np := by rw [nu_sI, if_neg (by omega)]; exact e1
  rw [h2, if_pos (by rw [nu_lt (by omega) (by decide)]; exact hn), nu_in hn (by decide), nu_g, nu_let, nu_cl (by omega), e1, nu_in hn (by decide), nu_g, nu_let, nu_cl (by omega), e2, nI_add, nu_let, nu_sI, if_pos ⟨rfl, rfl⟩, nu_sub (by omega), Nat.add_sub_cancel]
  have out : ∀ a k, a ≠ b + 2 + np → ¬ (a = b ∧ k = 4) → (fm_sI (fm_sI (fm_sI σ (b + 2 + np) 0 (nI w)) (b + 2 + np) 1 (nI 0)) b 4 (nI (np + 1))).1 a k = σ.1 a k := fun a k i1 i2 => by rw [nu_sI, if_neg i2, nu_sI, if_neg (by omega), nu_sI, if_neg (by omega)]
  refine ⟨_, rfl, ⟨by rw [out _ _ (by omega) (by omega)]; exact h1, by rw [nu_sI, if_pos ⟨rfl, rfl⟩], by rw [out _ _ (by omega) (by omega)]; exact h3, fun k hk => ?_, fun g hg => (h5 g hg).out (fun k => out _ _ (by omega) (by omega)) (fun k => out _ _ (by omega) (by omega))⟩, ?_⟩
  · dsimp only
    by_cases z : k = np
    · subst z
      rw [if_pos rfl, if_pos rfl]
      exact ⟨by rw [nu_sI, if_neg (by omega), nu_sI, if_neg (by omega), nu_sI, if_pos ⟨rfl, rfl⟩], by rw [nu_sI, if_neg (by omega), nu_sI, if_pos ⟨rfl, rfl⟩]⟩
    · rw [if_neg z, if_neg z, out _ _ (by omega) (by omega), out _ _ (by omega) (by omega)]
      exact h4 k (by omega)
  · exact fEq.tr (S1 := sB b) (fEq.tr (S1 := sB b) (S2 := sB b) (fEq.set ⟨by omega, by omega⟩) (fEq.set ⟨by omega, by omega⟩) (fun _ _ z => z) (fun _ _ z => z)) (fEq.set (S := sB b) ⟨by omega, by omega⟩) (fun _ _ z => z) (fun _ _ z => z)
theorem em_addsPerson {σ : fm_M} {dy np ng w : Nat} {kd jy : Nat → Nat} {pr : Nat → Nat → Nat} (ho : tOk dy np ng kd jy pr) (ht : mTown σ 97 dy np ng kd jy pr) (hn : np < 6) : ∃ σ', m_X12_addsPerson (nI w) σ = some ((), σ') ∧ mTown σ' 97 dy (np + 1) ng (fun k => if k = np then w else kd k) (fun k => if k = np then 0 else jy k) pr ∧ fEq (fun a _ => a = 97) σ σ' := by
  obtain ⟨o1, o2, -⟩ := ho
  obtain ⟨h1, h2, h3, h4, h5⟩ := ht
  unfold m_X12_addsPerson
  simp only [nu_lit]
  have e1 : (fm_sI σ 97 (4 + 2 * np + 0) (nI w)).1 97 1 = nI np := by rw [nu_sI, if_neg (by omega)]; exact h2
  have e2 : (fm_sI (fm_sI σ 97 (4 + 2 * np + 0) (nI w)) 97 (4 + 2 * np + 1) (nI 0)).1 97 1 = nI np := by rw [nu_sI, if_neg (by omega)]; exact e1
  rw [nu_in (by decide) (by decide), nu_g, nu_cl (n := 1) (by omega), h2, em_puts _ (by omega), nu_b, nu_g, e1, em_puts _ (by omega), nu_b, nu_g, nu_g, e2, nI_add, nu_let]
  have out : ∀ a k, ¬ (a = 97 ∧ (k = 4 + 2 * np ∨ k = 5 + 2 * np ∨ k = 1)) → (fm_sI (fm_sI (fm_sI σ 97 (4 + 2 * np + 0) (nI w)) 97 (4 + 2 * np + 1) (nI 0)) 97 1 (nI (np + 1))).1 a k = σ.1 a k := fun a k i1 => by rw [nu_sI, if_neg (by omega), nu_sI, if_neg (by omega), nu_sI, if_neg (by omega)]
  refine ⟨_, rfl, ⟨by rw [out _ _ (by omega)]; exact h1, by rw [nu_sI, if_pos ⟨rfl, rfl⟩], by rw [out _ _ (by omega)]; exact h3, fun k hk => ?_, fun g hg f hf => by rw [out _ _ (by omega)]; exact h5 g hg f hf⟩, ?_⟩
  · dsimp only
    by_cases z : k = np
    · subst z
      rw [if_pos rfl, if_pos rfl]
      exact ⟨by rw [nu_sI, if_neg (by omega), nu_sI, if_neg (by omega), nu_sI, if_pos ⟨rfl, by omega⟩], by rw [nu_sI, if_neg (by omega), nu_sI, if_pos ⟨rfl, by omega⟩]⟩
    · rw [if_neg z, if_neg z, out _ _ (by omega), out _ _ (by omega)]
      exact h4 k (by omega)
  · exact ⟨fun a k z => out a k (fun y => z y.1), rfl⟩
theorem sB_T : ∀ a k, sB 8 a k → sTT a k := fun a k z => Or.inl ⟨z.1, by have := z.2; omega⟩
theorem op_person (v : Int32) {σ : fm_M} (h : Inv σ) : opS (m_X11_person v) (m_X12_person v) σ := by
  obtain ⟨hR, dy, np, ng, kd, jy, pr, k1, k2, k3, k4⟩ := id h
  have o1 := k1.1
  rcases nu_ix v (n := 6) (by decide) with ⟨w, hw, rfl⟩ | hv
  · by_cases z : np = 6
    · refine stp_find 1 (by decide) h ?_ (fun σ1 hs => ?_)
      · unfold m_X11_person
        simp only [nu_lit, fnd1]
        rw [ex_isKindT hw, nu_b, if_neg nI10, k3.2.1, if_neg (by rw [nu_lt (by omega) (by decide)]; omega)]
      · have m1 := k4.keep (fun k => hs 97 k (by omega))
        unfold m_X12_person
        simp only [nu_lit]
        rw [em_in1T _ (by omega) (by omega) (by decide), nu_b, if_neg nI10, nu_in (by decide) (by decide), nu_g, nu_cl (n := 1) (by omega), m1.2.1, z, if_pos rfl]
    · obtain ⟨σ1, a1, a2, a3⟩ := ex_addPerson (w := w) k1 k3 (by omega)
      have m1 : mTown σ1 97 dy np ng kd jy pr := k4.keep (fun k => a3.1 _ _ (fun y => by have := y.2; omega))
      obtain ⟨σ2, b1, b2, b3⟩ := em_addsPerson (w := w) k1 m1 (by omega)
      refine ⟨nI np, σ1, σ2, ?_, ?_, ?_⟩
      · unfold m_X11_person
        simp only [nu_lit]
        rw [ex_isKindT hw, nu_b, if_neg nI10, k3.2.1, if_pos (by rw [nu_lt (by omega) (by decide)]; omega), a1, nu_b]
      · unfold m_X12_person
        simp only [nu_lit]
        rw [em_in1T _ (by omega) (by omega) (by decide), nu_b, if_neg nI10, nu_in (by decide) (by decide), nu_g, nu_cl (n := 1) (by omega), m1.2.1, if_neg (by rw [nu_eq (by omega) (by decide)]; exact z), b1, nu_b, nu_g, b2.2.1, nu_sub (by omega), Nat.add_sub_cancel]
      · exact inv_of hR (fEq.tr (S := sTT) a3 b3 sB_T (fun a k y => Or.inr y)) sTT_R (k1.addK (by omega) hw) k2 (a2.keep (k1.addK (by omega) hw) (fun a k i1 i2 => b3.1 _ _ (by omega))) b2
  · refine stp_find 0 (by decide) h ?_ (fun σ1 hs => ?_)
    · unfold m_X11_person
      simp only [nu_lit, fnd0]
      rw [ex_isKindF hv, nu_b, if_pos rfl]
    · unfold m_X12_person
      simp only [nu_lit]
      rw [em_wF hv (by decide), nu_b, if_pos rfl]
