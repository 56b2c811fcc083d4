theorem not_small {v : Int32} {n w : Nat} (hv : v < 0 ∨ nI n ≤ v) (hw : w < n) (hn : n < 2 ^ 30) : ¬ v = nI w := by
  intro e
  subst e
  rcases hv with z | z
  · exact nI_pos (by omega) z
  · rw [nu_le hn (by omega)] at z; omega
theorem neg_no {v : Int32} (h : v < 0) : ¬ nI 0 ≤ v := fun z => absurd h (Int32.not_lt.mpr z)
theorem big_yes {v : Int32} {n : Nat} (h : nI n ≤ v) (hn : n < 2 ^ 30) : nI 0 ≤ v := Int32.le_trans (by rw [nu_le (by decide) hn]; omega) h
theorem ex_tells {σ : fm_M} {a w : Nat} {x : Nat → Nat} (hx : xRec σ a x) (h3 : x 3 ≤ 1) (hw : w < 4) : m_X7_tells a (nI w) σ = some (nI (x w), σ) := by
  have hw4 : w = 0 ∨ w = 1 ∨ w = 2 ∨ w = 3 := by omega
  unfold m_X7_tells
  have e0 := hx.1 0 (by omega)
  have e1 := hx.1 1 (by omega)
  have e2 := hx.1 2 (by omega)
  have e3 := hx.1 3 (by omega)
  simp only [nu_lit]
  rcases hw4 with rfl | rfl | rfl | rfl
  · rw [if_pos rfl, e0]
  · rw [if_neg (by decide), if_pos rfl, e1]
  · rw [if_neg (by decide), if_neg (by decide), if_pos rfl, e2]
  · rw [if_neg (by decide), if_neg (by decide), if_neg (by decide), e3]
    simp only [nu_eq (show x 3 < 2 ^ 30 by omega) (show 0 < 2 ^ 30 by decide)]
    by_cases z : x 3 = 0
    · rw [if_pos z, z]
    · rw [if_neg z, show x 3 = 1 by omega]
theorem op_presentOf (x v : Int32) {σ : fm_M} (h : Inv σ) : opS (m_X11_presentOf x v) (m_X12_presentOf x v) σ := by
  obtain ⟨hR, dy, np, ng, kd, jy, pr, k1, k2, k3, k4⟩ := id h
  have o2 := k1.2.1
  rcases nu_ix x (n := ng) (by omega) with ⟨j, hj, rfl⟩ | hx
  · rcases nu_ix v (n := 4) (by decide) with ⟨w, hw, rfl⟩ | hv
    · refine stp_ask (nI (pr j w)) h ?_ ?_
      · unfold m_X11_presentOf
        simp only [nu_lit]
        rw [ex_isPresentT k3.2.2.1 o2 hj, nu_b, if_neg nI10, ex_wT (by omega) (by omega) (by decide), nu_b, if_neg nI10, nu_in (by omega) (by decide), nu_g, nu_cl (by omega), ex_tells (k3.2.2.2.2 j hj) (k1.2.2.2.2 j hj).1.2.2.1 hw, nu_b]
      · unfold m_X12_presentOf
        simp only [nu_lit]
        rw [em_isPresentT k4.2.2.1 o2 hj, nu_b, if_neg nI10, em_in1T _ (by omega) (by omega) (by decide), nu_b, if_neg nI10, em_of1 _ (by omega), nu_b, k4.2.2.2.2 j hj w (by omega)]
    · refine stp_find 0 (by decide) h ?_ (fun σ1 hs => ?_)
      · unfold m_X11_presentOf
        simp only [nu_lit, fnd0]
        rw [ex_isPresentT k3.2.2.1 o2 hj, nu_b, if_neg nI10, ex_wF hv (by decide), nu_b, if_pos rfl]
      · have m1 := k4.keep (fun k => hs 97 k (by omega))
        unfold m_X12_presentOf
        simp only [nu_lit]
        rw [em_isPresentT m1.2.2.1 o2 hj, nu_b, if_neg nI10, em_wF hv (by decide), nu_b, if_pos rfl]
  · refine stp_find 0 (by decide) h ?_ (fun σ1 hs => ?_)
    · unfold m_X11_presentOf
      simp only [nu_lit, fnd0]
      rw [ex_isPresentF k3.2.2.1 o2 hx, nu_b, if_pos rfl]
    · have m1 := k4.keep (fun k => hs 97 k (by omega))
      unfold m_X12_presentOf
      simp only [nu_lit]
      rw [em_isPresentF m1.2.2.1 o2 hx, nu_b, if_pos rfl]
theorem op_paper (x v : Int32) {σ : fm_M} (h : Inv σ) : opS (m_X11_paper x v) (m_X12_paper x v) σ := by
  obtain ⟨hR, dy, np, ng, kd, jy, pr, k1, k2, k3, k4⟩ := id h
  have o2 := k1.2.1
  rcases nu_ix x (n := ng) (by omega) with ⟨j, hj, rfl⟩ | hx
  · have hr := (k1.2.2.2.2 j hj).1
    have h0 := hr.1
    have e0 : σ.1 (8 + 9 + 2 * j) 1 = nI (pr j 0) := (k3.2.2.2.2 j hj).n
    rcases nu_ix v (n := pr j 0) (by omega) with ⟨w, hw, rfl⟩ | hv
    · refine stp_ask (nI (pr j (4 + w))) h ?_ ?_
      · unfold m_X11_paper
        simp only [nu_lit]
        rw [ex_isPresentT k3.2.2.1 o2 hj, nu_b, if_neg nI10, if_pos (by rw [nu_le (by decide) (by omega)]; omega), nu_in (by omega) (by decide), nu_g, nu_cl (by omega), e0, if_pos (by rw [nu_lt (by omega) (by omega)]; exact hw), ex_paperAt (k3.2.2.2.2 j hj) h0 hw, nu_b]
      · unfold m_X12_paper
        simp only [nu_lit]
        rw [em_isPresentT k4.2.2.1 o2 hj, nu_b, if_neg nI10, if_pos (by rw [nu_le (by decide) (by omega)]; omega), em_of1 _ (by omega), nu_b, k4.2.2.2.2 j hj 0 (by omega), if_neg (by rw [nu_le (by omega) (by omega)]; omega), nI_add, em_of1 _ (by omega), nu_b, k4.2.2.2.2 j hj (4 + w) (by omega)]
    · rcases hv with hv | hv
      · refine stp_find 0 (by decide) h ?_ (fun σ1 hs => ?_)
        · unfold m_X11_paper
          simp only [nu_lit, fnd0]
          rw [ex_isPresentT k3.2.2.1 o2 hj, nu_b, if_neg nI10, if_neg (neg_no hv)]
        · have m1 := k4.keep (fun k => hs 97 k (by omega))
          unfold m_X12_paper
          simp only [nu_lit]
          rw [em_isPresentT m1.2.2.1 o2 hj, nu_b, if_neg nI10, if_neg (neg_no hv)]
      · have hv0 := big_yes hv (by omega)
        refine stp_find 3 (by decide) h ?_ (fun σ1 hs => ?_)
        · unfold m_X11_paper
          simp only [nu_lit, fnd3]
          rw [ex_isPresentT k3.2.2.1 o2 hj, nu_b, if_neg nI10, if_pos hv0, nu_in (by omega) (by decide), nu_g, nu_cl (by omega), e0, if_neg (fun z => absurd z (Int32.not_lt.mpr hv))]
        · have m1 := k4.keep (fun k => hs 97 k (by omega))
          unfold m_X12_paper
          simp only [nu_lit]
          rw [em_isPresentT m1.2.2.1 o2 hj, nu_b, if_neg nI10, if_pos hv0, em_of1 _ (by omega), nu_b, m1.2.2.2.2 j hj 0 (by omega), if_pos hv]
  · refine stp_find 0 (by decide) h ?_ (fun σ1 hs => ?_)
    · unfold m_X11_paper
      simp only [nu_lit, fnd0]
      rw [ex_isPresentF k3.2.2.1 o2 hx, nu_b, if_pos rfl]
    · have m1 := k4.keep (fun k => hs 97 k (by omega))
      unfold m_X12_paper
      simp only [nu_lit]
      rw [em_isPresentF m1.2.2.1 o2 hx, nu_b, if_pos rfl]
theorem ex_isPaperT {σ : fm_M} {j : Nat} (h : j < 4) : m_X11_isPaper (nI j) σ = some (nI 1, σ) := by
  unfold m_X11_isPaper
  simp only [nu_lit]
  rw [ex_wT (by omega) (by omega) (by decide), nu_b, nu_bz1, nu_g]
theorem ex_isPaperF {σ : fm_M} {x : Int32} (h : x < 0 ∨ nI 4 ≤ x) : m_X11_isPaper x σ = some (nI 0, σ) := by
  unfold m_X11_isPaper
  simp only [nu_lit]
  rw [ex_wF h (by decide), nu_b, nu_bz0, nu_g]
theorem em_isPaperT {σ : fm_M} {j : Nat} (h : j < 4) : m_X12_isPaper (nI j) σ = some (nI 1, σ) := by
  unfold m_X12_isPaper
  simp only [nu_lit]
  rw [em_in1T _ (by omega) (by omega) (by decide), nu_b, nu_bz1, nu_g]
theorem em_isPaperF {σ : fm_M} {x : Int32} (h : x < 0 ∨ nI 4 ≤ x) : m_X12_isPaper x σ = some (nI 0, σ) := by
  unfold m_X12_isPaper
  simp only [nu_lit]
  rw [em_wF h (by decide), nu_b, nu_bz0, nu_g]
theorem em_why {σ : fm_M} {p : Nat} {x : Nat → Nat} (hp : p < 8) (hx : mRec σ 97 p x) (hr : rOk x) : m_X12_whyNoLayer (nI p) σ = some (if x 0 = 6 then nI 1 else if x 3 = 1 then nI 4 else -nI 1, σ) := by
  have h0 := hr.1
  have h3 := hr.2.2.1
  unfold m_X12_whyNoLayer
  simp only [nu_lit]
  rw [em_of1 _ (by omega), nu_b, hx 0 (by omega)]
  simp only [nu_eq (show x 0 < 2 ^ 30 by omega) (show 6 < 2 ^ 30 by decide)]
  by_cases z : x 0 = 6
  · rw [if_pos z, if_pos z]
  · rw [if_neg z, if_neg z, em_of1 _ (by omega), nu_b, hx 3 (by omega)]
    simp only [nu_eq (show x 3 < 2 ^ 30 by omega) (show 1 < 2 ^ 30 by decide)]
    by_cases z3 : x 3 = 1
    · rw [if_pos z3, if_pos z3]
    · rw [if_neg z3, if_neg z3]
theorem sA_T {g : Nat} (hg : g < 8) : ∀ a k, sA (8 + 9 + 2 * g) a k → sTT a k := fun a k z => by
  rcases z with z | z
  · exact Or.inl ⟨by omega, by omega⟩
  · exact Or.inl ⟨by omega, by omega⟩
theorem sP_T {g : Nat} : ∀ a k, sP g a k → sTT a k := fun a k z => Or.inr z.1
theorem sP_8 {g : Nat} {σ σ' : fm_M} (h : fEq (sP g) σ σ') : ∀ a k, 8 ≤ a → a < 8 + 25 → σ'.1 a k = σ.1 a k := fun a k i1 i2 => h.1 a k (fun z => by have := z.1; omega)
theorem sA_97 {g : Nat} {σ σ' : fm_M} (hg : g < 8) (h : fEq (sA (8 + 9 + 2 * g)) σ σ') : ∀ k, σ'.1 97 k = σ.1 97 k := fun k => h.1 97 k (fun z => by rcases z with z | z <;> omega)
/-- a present is changed on both sides -/
theorem inv_P {σ σ1 σ2 : fm_M} {dy np ng g : Nat} {kd jy x : Nat → Nat} {pr : Nat → Nat → Nat} (h : iR σ) (k1 : tOk dy np ng kd jy pr) (k2 : dy ≤ 9999) (k3 : xTown σ 8 dy np ng kd jy pr) (k4 : mTown σ 97 dy np ng kd jy pr) (hg : g < ng) (hx : rOk x) (hx2 : x 2 < np) (a1 : xRec σ1 (8 + 9 + 2 * g) x) (a2 : fEq (sA (8 + 9 + 2 * g)) σ σ1) (b1 : mRec σ2 97 g x) (b2 : fEq (sP g) σ1 σ2) : Inv σ2 := by
  have o2 := k1.2.1
  have m1 := k4.keep (sA_97 (by omega) a2)
  exact inv_of h (fEq.tr (S := sTT) a2 b2 (sA_T (by omega)) sP_T) sTT_R (k1.setP hx hx2) k2 ((k3.setP k1 a1 a2).keep (k1.setP hx hx2) (sP_8 b2)) (m1.setP k1 b1 b2)
theorem op_wrap (x v : Int32) {σ : fm_M} (h : Inv σ) : opS (m_X11_wrap x v) (m_X12_wrap x v) σ := by
  obtain ⟨hR, dy, np, ng, kd, jy, pr, k1, k2, k3, k4⟩ := id h
  have o2 := k1.2.1
  rcases nu_ix x (n := ng) (by omega) with ⟨j, hj, rfl⟩ | hx
  · obtain ⟨hr, hr2⟩ := k1.2.2.2.2 j hj
    have h0 := hr.1
    have h3 := hr.2.2.1
    have xj := k3.2.2.2.2 j hj
    have e0 : σ.1 (8 + 9 + 2 * j) 1 = nI (pr j 0) := xj.n
    have e3 : σ.1 (8 + 9 + 2 * j) 4 = nI (pr j 3) := xj.1 3 (by omega)
    rcases nu_ix v (n := 4) (by decide) with ⟨w, hw, rfl⟩ | hv
    · by_cases z6 : pr j 0 = 6
      · refine stp_find 1 (by decide) h ?_ (fun σ1 hs => ?_)
        · unfold m_X11_wrap
          simp only [nu_lit, fnd1]
          rw [ex_isPresentT k3.2.2.1 o2 hj, nu_b, if_neg nI10, ex_isPaperT hw, nu_b, if_neg nI10, nu_in (by omega) (by decide), nu_g, nu_cl (by omega), e0, if_neg (by rw [nu_lt (by omega) (by decide)]; omega)]
        · have m1 := k4.keep (fun k => hs 97 k (by omega))
          unfold m_X12_wrap
          simp only [nu_lit, nu_j]
          rw [em_isPresentT m1.2.2.1 o2 hj, nu_b, if_neg nI10, em_isPaperT hw, nu_b, if_neg nI10, em_why (by omega) (m1.2.2.2.2 j hj) hr, nu_b, if_pos z6, if_neg (by decide)]
      · by_cases z3 : pr j 3 = 1
        · refine stp_find 4 (by decide) h ?_ (fun σ1 hs => ?_)
          · unfold m_X11_wrap
            simp only [nu_lit, fnd4]
            rw [ex_isPresentT k3.2.2.1 o2 hj, nu_b, if_neg nI10, ex_isPaperT hw, nu_b, if_neg nI10, nu_in (by omega) (by decide), nu_g, nu_cl (by omega), e0, if_pos (by rw [nu_lt (by omega) (by decide)]; omega), e3, z3, if_neg nI10]
          · have m1 := k4.keep (fun k => hs 97 k (by omega))
            unfold m_X12_wrap
            simp only [nu_lit, nu_j]
            rw [em_isPresentT m1.2.2.1 o2 hj, nu_b, if_neg nI10, em_isPaperT hw, nu_b, if_neg nI10, em_why (by omega) (m1.2.2.2.2 j hj) hr, nu_b, if_neg z6, if_pos z3, if_neg (by decide)]
        · obtain ⟨σ1, a1, a2, a3⟩ := ex_layAbout (q := w) xj (by omega)
          have m1 := k4.keep (sA_97 (by omega) a3)
          obtain ⟨σ2, b1, b2, b3⟩ := em_addsLayer (q := w) (by omega) (m1.2.2.2.2 j hj) (by omega)
          refine ⟨nI (pr j 0 + 1), σ1, σ2, ?_, ?_, ?_⟩
          · unfold m_X11_wrap
            simp only [nu_lit]
            rw [ex_isPresentT k3.2.2.1 o2 hj, nu_b, if_neg nI10, ex_isPaperT hw, nu_b, if_neg nI10, nu_in (by omega) (by decide), nu_g, nu_cl (by omega), e0, if_pos (by rw [nu_lt (by omega) (by decide)]; omega), e3, show pr j 3 = 0 by omega, if_pos rfl, a1, nu_b, a2.n]
            simp [rPush]
          · unfold m_X12_wrap
            simp only [nu_lit, nu_j]
            rw [em_isPresentT m1.2.2.1 o2 hj, nu_b, if_neg nI10, em_isPaperT hw, nu_b, if_neg nI10, em_why (by omega) (m1.2.2.2.2 j hj) hr, nu_b, if_neg z6, if_neg z3, if_pos (by decide), b1, nu_b, em_of1 _ (by omega), nu_b, b2 0 (by omega)]
            simp [rPush]
          · exact inv_P hR k1 k2 k3 k4 hj (rPush_ok hr (by omega) hw) (by simp [rPush]; exact hr2) a2 a3 b2 b3
    · refine stp_find 0 (by decide) h ?_ (fun σ1 hs => ?_)
      · unfold m_X11_wrap
        simp only [nu_lit, fnd0]
        rw [ex_isPresentT k3.2.2.1 o2 hj, nu_b, if_neg nI10, ex_isPaperF hv, nu_b, if_pos rfl]
      · have m1 := k4.keep (fun k => hs 97 k (by omega))
        unfold m_X12_wrap
        simp only [nu_lit, nu_j]
        rw [em_isPresentT m1.2.2.1 o2 hj, nu_b, if_neg nI10, em_isPaperF hv, nu_b, if_pos rfl, if_neg (by decide)]
  · refine stp_find 0 (by decide) h ?_ (fun σ1 hs => ?_)
    · unfold m_X11_wrap
      simp only [nu_lit, fnd0]
      rw [ex_isPresentF k3.2.2.1 o2 hx, nu_b, if_pos rfl]
    · have m1 := k4.keep (fun k => hs 97 k (by omega))
      unfold m_X12_wrap
      simp only [nu_lit, nu_j]
      rw [em_isPresentF m1.2.2.1 o2 hx, nu_b, if_pos rfl, if_neg (by decide)]
theorem op_unwrap (x : Int32) {σ : fm_M} (h : Inv σ) : opS (m_X11_unwrap x) (m_X12_unwrap x) σ := by
  obtain ⟨hR, dy, np, ng, kd, jy, pr, k1, k2, k3, k4⟩ := id h
  have o2 := k1.2.1
  rcases nu_ix x (n := ng) (by omega) with ⟨j, hj, rfl⟩ | hx
  · obtain ⟨hr, hr2⟩ := k1.2.2.2.2 j hj
    have h0 := hr.1
    have xj := k3.2.2.2.2 j hj
    have e0 : σ.1 (8 + 9 + 2 * j) 1 = nI (pr j 0) := xj.n
    by_cases z0 : pr j 0 = 0
    · refine stp_find 3 (by decide) h ?_ (fun σ1 hs => ?_)
      · unfold m_X11_unwrap
        simp only [nu_lit, fnd3]
        rw [ex_isPresentT k3.2.2.1 o2 hj, nu_b, if_neg nI10, nu_in (by omega) (by decide), nu_g, nu_cl (by omega), e0, z0, if_pos rfl]
      · have m1 := k4.keep (fun k => hs 97 k (by omega))
        unfold m_X12_unwrap
        simp only [nu_lit]
        rw [em_isPresentT m1.2.2.1 o2 hj, nu_b, if_neg nI10, em_of1 _ (by omega), nu_b, m1.2.2.2.2 j hj 0 (by omega), z0, if_pos rfl]
    · obtain ⟨σ1, a1, a2, a3⟩ := ex_takeOff xj h0 (by omega)
      have m1 := k4.keep (sA_97 (by omega) a3)
      obtain ⟨σ2, b1, b2, b3⟩ := em_takesLayer (by omega) (m1.2.2.2.2 j hj) (by omega) h0
      refine ⟨nI (pr j 4), σ1, σ2, ?_, ?_, ?_⟩
      · unfold m_X11_unwrap
        simp only [nu_lit]
        rw [ex_isPresentT k3.2.2.1 o2 hj, nu_b, if_neg nI10, nu_in (by omega) (by decide), nu_g, nu_g, nu_cl (by omega), e0, if_neg (by rw [nu_eq (by omega) (by decide)]; exact z0), a1, nu_b]
      · unfold m_X12_unwrap
        simp only [nu_lit]
        rw [em_isPresentT m1.2.2.1 o2 hj, nu_b, if_neg nI10, em_of1 _ (by omega), nu_b, m1.2.2.2.2 j hj 0 (by omega), if_neg (by rw [nu_eq (by omega) (by decide)]; exact z0), b1, nu_b]
      · exact inv_P hR k1 k2 k3 k4 hj (rPop_ok hr (by omega)) (by simp [rPop]; exact hr2) a2 a3 b2 b3
  · refine stp_find 0 (by decide) h ?_ (fun σ1 hs => ?_)
    · unfold m_X11_unwrap
      simp only [nu_lit, fnd0]
      rw [ex_isPresentF k3.2.2.1 o2 hx, nu_b, if_pos rfl]
    · have m1 := k4.keep (fun k => hs 97 k (by omega))
      unfold m_X12_unwrap
      simp only [nu_lit]
      rw [em_isPresentF m1.2.2.1 o2 hx, nu_b, if_pos rfl]
