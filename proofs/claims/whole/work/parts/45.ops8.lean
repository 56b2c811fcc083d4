/-! WHEN -/
theorem tDays_ok2 {dy np ng : Nat} {kd jy : Nat → Nat} {pr : Nat → Nat → Nat} (n : Nat) (h : tOk dy np ng kd jy pr) (hd : dy + n < 2 ^ 20) : tOk (tDays np ng kd n (dy, jy, pr)).1 np ng kd (tDays np ng kd n (dy, jy, pr)).2.1 (tDays np ng kd n (dy, jy, pr)).2.2 := (tDays_ok (kd := kd) n (dy, jy, pr) h hd).1
theorem tDays_d {dy np ng : Nat} {kd jy : Nat → Nat} {pr : Nat → Nat → Nat} (n : Nat) (h : tOk dy np ng kd jy pr) (hd : dy + n < 2 ^ 20) : (tDays np ng kd n (dy, jy, pr)).1 = dy + n := (tDays_ok (kd := kd) n (dy, jy, pr) h hd).2
/-- one day more, in the trial -/
theorem ex_go1 {σ : fm_M} {dy np ng i : Nat} {kd jy : Nat → Nat} {pr : Nat → Nat → Nat} (ho : tOk dy np ng kd jy pr) (hd : dy + i + 1 < 2 ^ 20) (ht : xTown σ 58 (tDays np ng kd i (dy, jy, pr)).1 np ng kd (tDays np ng kd i (dy, jy, pr)).2.1 (tDays np ng kd i (dy, jy, pr)).2.2) : ∃ σ', m_X10_oneDay 58 σ = some ((), σ') ∧ xTown σ' 58 (tDays np ng kd (i + 1) (dy, jy, pr)).1 np ng kd (tDays np ng kd (i + 1) (dy, jy, pr)).2.1 (tDays np ng kd (i + 1) (dy, jy, pr)).2.2 ∧ fEq sX σ σ' := by
  obtain ⟨σ', u1, u2, u3⟩ := ex_day (b := 58) (tDays_ok2 i ho (by omega)) ht
  refine ⟨σ', u1, ?_, u3.mono sB_X⟩
  rw [tDays_add]
  exact u2
theorem em_day1 {σ τ : fm_M} {dy np ng i : Nat} {kd jy : Nat → Nat} {pr : Nat → Nat → Nat} (ho : tOk dy np ng kd jy pr) (hd : dy + i + 1 < 2 ^ 20) (ht : mTown τ 97 (tDays np ng kd i (dy, jy, pr)).1 np ng kd (tDays np ng kd i (dy, jy, pr)).2.1 (tDays np ng kd i (dy, jy, pr)).2.2) (h : mTr σ τ) : ∃ τ', m_X12_day τ = some ((), τ') ∧ mTown τ' 97 (tDays np ng kd (i + 1) (dy, jy, pr)).1 np ng kd (tDays np ng kd (i + 1) (dy, jy, pr)).2.1 (tDays np ng kd (i + 1) (dy, jy, pr)).2.2 ∧ mTr σ τ' := by
  obtain ⟨τ', u1, u2, u3⟩ := em_day (tDays_ok2 i ho (by omega)) ht
  refine ⟨τ', u1, ?_, h.go u3 (fun a k z => z)⟩
  rw [tDays_add]
  exact u2
def tWh (np ng : Nat) (kd : Nat → Nat) (q : Nat × (Nat → Nat) × (Nat → Nat → Nat)) (g f v : Nat) : Nat → Bool := fun i => decide ((tDays np ng kd i q).2.2 g f = v)
theorem em_firstLoop (kc : Int32 → Int32 → Int32 → Int32 → fm_M → Option (Int32 × fm_M)) {σ : fm_M} {dy np ng g f v : Nat} {kd jy : Nat → Nat} {pr : Nat → Nat → Nat} (ho : tOk dy np ng kd jy pr) (h9 : dy ≤ 9999) (hg : g < ng) (hf4 : f = 2 ∨ f = 3) (hv : v < 2 ^ 20) : ∀ (m fuel i : Nat) (τ : fm_M), m < fuel → i + m = 61 → mTr σ τ → mTown τ 97 (tDays np ng kd i (dy, jy, pr)).1 np ng kd (tDays np ng kd i (dy, jy, pr)).2.1 (tDays np ng kd i (dy, jy, pr)).2.2 → ∃ τ', m_X12_firstBy_7 kc fuel (nI g) (nI f) (nI v) (nI i) τ = kc (nI g) (nI f) (nI v) (nI (tf (tWh np ng kd (dy, jy, pr) g f v) m i)) τ' ∧ mTr σ τ' := by
  have o2 := ho.2.1
  intro m
  induction m with
  | zero =>
    intro fuel i τ hf hi h1 h2
    obtain ⟨n, rfl⟩ : ∃ n, fuel = n + 1 := ⟨fuel - 1, by omega⟩
    refine ⟨τ, ?_, h1⟩
    rw [m_X12_firstBy_7, tf]
    simp only [nu_lit]
    rw [if_pos (by rw [nu_lt (by omega) (by omega)]; omega)]
  | succ m ih =>
    intro fuel i τ hf hi h1 h2
    obtain ⟨n, rfl⟩ : ∃ n, fuel = n + 1 := ⟨fuel - 1, by omega⟩
    have ok := tDays_ok2 (kd := kd) i ho (by omega)
    have o1 := ok.1
    have q3 := (ok.2.2.2.2 g hg).1.2.2.1
    have q2 := (ok.2.2.2.2 g hg).2
    have qb : (tDays np ng kd i (dy, jy, pr)).2.2 g f < 2 ^ 20 := by rcases hf4 with rfl | rfl <;> omega
    by_cases z : (tDays np ng kd i (dy, jy, pr)).2.2 g f = v
    · refine ⟨τ, ?_, h1⟩
      rw [m_X12_firstBy_7, tf]
      simp only [nu_lit]
      rw [if_neg (by rw [nu_lt (by omega) (by omega)]; omega), em_of1 _ (by omega), nu_b, h2.2.2.2.2 g hg f (by omega), z, if_pos rfl, if_pos (by simp [tWh, z])]
    · obtain ⟨τ1, u1, u2, u3⟩ := em_day1 ho (by omega) h2 h1
      obtain ⟨τ', w1, w2⟩ := ih n (i + 1) τ1 (by omega) (by omega) u3 u2
      refine ⟨τ', ?_, w2⟩
      rw [m_X12_firstBy_7, tf]
      simp only [nu_lit, nI_add]
      rw [if_neg (by rw [nu_lt (by omega) (by omega)]; omega), em_of1 _ (by omega), nu_b, h2.2.2.2.2 g hg f (by omega), if_neg (by rw [nu_eq (by omega) (by omega)]; exact z), u1, nu_b, if_neg (by simp [tWh, z])]
      exact w1
theorem em_first {σ : fm_M} {dy np ng g f v : Nat} {kd jy : Nat → Nat} {pr : Nat → Nat → Nat} (ho : tOk dy np ng kd jy pr) (h9 : dy ≤ 9999) (hg : g < ng) (hf4 : f = 2 ∨ f = 3) (hv : v < 2 ^ 20) (ht : mTown σ 97 dy np ng kd jy pr) : ∃ τ', m_X12_firstBy (nI g) (nI f) (nI v) σ = (if lf (tWh np ng kd (dy, jy, pr) g f v) 61 ≤ 60 then some (nI (lf (tWh np ng kd (dy, jy, pr) g f v) 61), τ') else fm_b (m_X12_no (nI 3) τ') fun r s => some (r, s)) ∧ fEq sM σ τ' := by
  obtain ⟨τ, d1, d2, d3⟩ := em_start σ
  unfold m_X12_firstBy
  simp only [nu_lit]
  obtain ⟨τ1, w1, w2⟩ := em_firstLoop (fun (x1_y10) (x2_y10) (x3_y10) (x4_y10) (σ_y10) => fm_b (m_X12_laysBack  σ_y10) fun _u11 σ12 => (if x4_y10 ≤ (nI 60) then (some (x4_y10, σ12)) else (fm_b (m_X12_no (nI 3) σ12) fun r14 σ15 => (some (r14, σ15))))) ho h9 hg hf4 hv 61 fm_fu 0 τ (by have := nu_fu; omega) (by omega) d2 (ht.keep d3)
  obtain ⟨τ', f1, f2⟩ := em_end w2
  refine ⟨τ', ?_, f2⟩
  have hl := lf_le (tWh np ng kd (dy, jy, pr) g f v) 61
  rw [d1, nu_b, w1, f1, nu_b, show tf (tWh np ng kd (dy, jy, pr) g f v) 61 0 = lf (tWh np ng kd (dy, jy, pr) g f v) 61 from rfl]
  by_cases z : lf (tWh np ng kd (dy, jy, pr) g f v) 61 ≤ 60
  · rw [if_pos (by rw [nu_le (by omega) (by decide)]; exact z), if_pos z]
  · rw [if_neg (by rw [nu_le (by omega) (by decide)]; exact z), if_neg z]
theorem ex_foundLoop (kc : Int32 → Int32 → fm_M → Option (Int32 × fm_M)) {dy np ng g : Nat} {kd jy : Nat → Nat} {pr : Nat → Nat → Nat} (ho : tOk dy np ng kd jy pr) (h9 : dy ≤ 9999) (hg : g < ng) : ∀ (m fuel i : Nat) (σ : fm_M), m < fuel → i + m = 61 → xTown σ 58 (tDays np ng kd i (dy, jy, pr)).1 np ng kd (tDays np ng kd i (dy, jy, pr)).2.1 (tDays np ng kd i (dy, jy, pr)).2.2 → ∃ σ', m_X11_found_21 kc fuel (nI g) (nI i) σ = (if tf (tWh np ng kd (dy, jy, pr) g 3 1) m i ≤ 60 then some (nI (tf (tWh np ng kd (dy, jy, pr) g 3 1) m i), σ') else kc (nI g) (nI 61) σ') ∧ fEq sX σ σ' := by
  have o2 := ho.2.1
  intro m
  induction m with
  | zero =>
    intro fuel i σ hf hi h2
    obtain ⟨n, rfl⟩ : ∃ n, fuel = n + 1 := ⟨fuel - 1, by omega⟩
    refine ⟨σ, ?_, fEq.rf⟩
    rw [m_X11_found_21, tf]
    simp only [nu_lit]
    rw [if_pos (by rw [nu_lt (by omega) (by omega)]; omega), if_neg (by omega), show i = 61 by omega]
  | succ m ih =>
    intro fuel i σ hf hi h2
    obtain ⟨n, rfl⟩ : ∃ n, fuel = n + 1 := ⟨fuel - 1, by omega⟩
    have ok := tDays_ok2 (kd := kd) i ho (by omega)
    have q3 := (ok.2.2.2.2 g hg).1.2.2.1
    have x3 : σ.1 (58 + 9 + 2 * g) 4 = nI ((tDays np ng kd i (dy, jy, pr)).2.2 g 3) := (h2.2.2.2.2 g hg).1 3 (by omega)
    by_cases z : (tDays np ng kd i (dy, jy, pr)).2.2 g 3 = 1
    · refine ⟨σ, ?_, fEq.rf⟩
      rw [m_X11_found_21, tf]
      simp only [nu_lit]
      rw [if_neg (by rw [nu_lt (by omega) (by omega)]; omega), nu_in (by omega) (by decide), nu_g, nu_cl (by omega), x3, if_neg (by rw [nu_eq (by omega) (by omega)]; omega), if_pos (show tWh np ng kd (dy, jy, pr) g 3 1 i = true by simp [tWh, z]), if_pos (by omega)]
    · obtain ⟨σ1, u1, u2, u3⟩ := ex_go1 ho (by omega) h2
      obtain ⟨σ', w1, w2⟩ := ih n (i + 1) σ1 (by omega) (by omega) u2
      refine ⟨σ', ?_, qX.tr u3 w2⟩
      rw [m_X11_found_21, tf]
      simp only [nu_lit, nI_add]
      rw [if_neg (by rw [nu_lt (by omega) (by omega)]; omega), nu_in (by omega) (by decide), nu_g, nu_cl (by omega), x3, if_pos (by rw [nu_eq (by omega) (by omega)]; omega), u1, nu_b, if_neg (show ¬ tWh np ng kd (dy, jy, pr) g 3 1 i = true by simp [tWh, z])]
      exact w1
theorem ex_comesLoop (kc : Int32 → Int32 → Int32 → fm_M → Option (Int32 × fm_M)) {dy np ng g v : Nat} {kd jy : Nat → Nat} {pr : Nat → Nat → Nat} (ho : tOk dy np ng kd jy pr) (h9 : dy ≤ 9999) (hg : g < ng) (hv : v < 2 ^ 20) : ∀ (m fuel i : Nat) (σ : fm_M), m < fuel → i + m = 61 → xTown σ 58 (tDays np ng kd i (dy, jy, pr)).1 np ng kd (tDays np ng kd i (dy, jy, pr)).2.1 (tDays np ng kd i (dy, jy, pr)).2.2 → ∃ σ', m_X11_comes_29 kc fuel (nI g) (nI v) (nI i) σ = (if tf (tWh np ng kd (dy, jy, pr) g 2 v) m i ≤ 60 then some (nI (tf (tWh np ng kd (dy, jy, pr) g 2 v) m i), σ') else kc (nI g) (nI v) (nI 61) σ') ∧ fEq sX σ σ' := by
  have o2 := ho.2.1
  intro m
  induction m with
  | zero =>
    intro fuel i σ hf hi h2
    obtain ⟨n, rfl⟩ : ∃ n, fuel = n + 1 := ⟨fuel - 1, by omega⟩
    refine ⟨σ, ?_, fEq.rf⟩
    rw [m_X11_comes_29, tf]
    simp only [nu_lit]
    rw [if_pos (by rw [nu_lt (by omega) (by omega)]; omega), if_neg (by omega), show i = 61 by omega]
  | succ m ih =>
    intro fuel i σ hf hi h2
    obtain ⟨n, rfl⟩ : ∃ n, fuel = n + 1 := ⟨fuel - 1, by omega⟩
    have ok := tDays_ok2 (kd := kd) i ho (by omega)
    have o1 := ok.1
    have q2 := (ok.2.2.2.2 g hg).2
    have x3 : σ.1 (58 + 9 + 2 * g) 3 = nI ((tDays np ng kd i (dy, jy, pr)).2.2 g 2) := (h2.2.2.2.2 g hg).1 2 (by omega)
    by_cases z : (tDays np ng kd i (dy, jy, pr)).2.2 g 2 = v
    · refine ⟨σ, ?_, fEq.rf⟩
      rw [m_X11_comes_29, tf]
      simp only [nu_lit]
      rw [if_neg (by rw [nu_lt (by omega) (by omega)]; omega), nu_in (by omega) (by decide), nu_g, nu_cl (by omega), x3, if_pos (by rw [z]), if_pos (show tWh np ng kd (dy, jy, pr) g 2 v i = true by simp [tWh, z]), if_pos (by omega)]
    · obtain ⟨σ1, u1, u2, u3⟩ := ex_go1 ho (by omega) h2
      obtain ⟨σ', w1, w2⟩ := ih n (i + 1) σ1 (by omega) (by omega) u2
      refine ⟨σ', ?_, qX.tr u3 w2⟩
      rw [m_X11_comes_29, tf]
      simp only [nu_lit, nI_add]
      rw [if_neg (by rw [nu_lt (by omega) (by omega)]; omega), nu_in (by omega) (by decide), nu_g, nu_cl (by omega), x3, if_neg (by rw [nu_eq (by omega) (by omega)]; exact z), u1, nu_b, if_neg (show ¬ tWh np ng kd (dy, jy, pr) g 2 v i = true by simp [tWh, z])]
      exact w1
theorem op_found (x : Int32) {σ : fm_M} (h : Inv σ) : opS (m_X11_found x) (m_X12_found x) σ := by
  obtain ⟨hR, dy, np, ng, kd, jy, pr, k1, k2, k3, k4⟩ := id h
  have o1 := k1.1
  have o2 := k1.2.1
  rcases nu_ix x (n := ng) (by omega) with ⟨jx, hx, rfl⟩ | hx
  · obtain ⟨τ1, a1, a2, a3⟩ := ex_startTrial k1 k3
    obtain ⟨σ1, c1, c3⟩ := ex_foundLoop (fun (x1_y11) (x2_y11) (σ_y11) => fm_b (m_X11_tell (fnd 3) σ_y11) fun r12 σ13 => (some (r12, σ13))) k1 k2 hx 61 fm_fu 0 τ1 (by have := nu_fu; omega) (by omega) a2
    by_cases z : lf (tWh np ng kd (dy, jy, pr) jx 3 1) 61 ≤ 60
    · rw [if_pos (by exact z)] at c1
      have m1 := k4.qX (qX.tr a3 c3)
      obtain ⟨σ2, d1, d2⟩ := em_first (f := 3) (v := 1) k1 k2 hx (by omega) (by omega) m1
      rw [if_pos z] at d1
      refine stp_q (nI (lf (tWh np ng kd (dy, jy, pr) jx 3 1) 61)) h ?_ (qX.tr a3 c3) ?_ d2
      · unfold m_X11_found
        simp only [nu_lit, fnd3]
        rw [ex_isPresentT k3.2.2.1 o2 hx, nu_b, if_neg nI10, a1, nu_b]
        exact c1
      · unfold m_X12_found
        simp only [nu_lit]
        rw [em_isPresentT m1.2.2.1 o2 hx, nu_b, if_neg nI10, d1, nu_b]
    · rw [if_neg (by exact z)] at c1
      refine stp_qf 3 (by decide) h ?_ (qX.tr a3 c3) (fun τ hs => ?_)
      · unfold m_X11_found
        simp only [nu_lit, fnd3]
        rw [ex_isPresentT k3.2.2.1 o2 hx, nu_b, if_neg nI10, a1, nu_b]
        exact c1
      · have m1 := (k4.qX (qX.tr a3 c3)).keep (fun k => hs 97 k (by omega))
        obtain ⟨σ2, d1, d2⟩ := em_first (f := 3) (v := 1) k1 k2 hx (by omega) (by omega) m1
        rw [if_neg z] at d1
        refine ⟨σ2, ?_, d2⟩
        unfold m_X12_found
        simp only [nu_lit]
        rw [em_isPresentT m1.2.2.1 o2 hx, nu_b, if_neg nI10, d1, em_no _ (by decide), nu_b, nu_b]
  · refine stp_find 0 (by decide) h ?_ (fun σ1 hs => ?_)
    · unfold m_X11_found
      simp only [nu_lit, fnd0]
      rw [ex_isPresentF k3.2.2.1 o2 hx, nu_b, if_pos rfl]
    · have m1 := k4.keep (fun k => hs 97 k (by omega))
      unfold m_X12_found
      simp only [nu_lit]
      rw [em_isPresentF m1.2.2.1 o2 hx, nu_b, if_pos rfl]
theorem op_comes (x v : Int32) {σ : fm_M} (h : Inv σ) : opS (m_X11_comes x v) (m_X12_comes x v) σ := by
  obtain ⟨hR, dy, np, ng, kd, jy, pr, k1, k2, k3, k4⟩ := id h
  have o1 := k1.1
  have o2 := k1.2.1
  rcases nu_ix x (n := ng) (by omega) with ⟨jx, hx, rfl⟩ | hx
  · rcases nu_ix v (n := np) (by omega) with ⟨jv, hv, rfl⟩ | hv
    · obtain ⟨τ1, a1, a2, a3⟩ := ex_startTrial k1 k3
      obtain ⟨σ1, c1, c3⟩ := ex_comesLoop (fun (x1_y17) (x2_y17) (x3_y17) (σ_y17) => fm_b (m_X11_tell (fnd 3) σ_y17) fun r18 σ19 => (some (r18, σ19))) k1 k2 hx (v := jv) (by omega) 61 fm_fu 0 τ1 (by have := nu_fu; omega) (by omega) a2
      by_cases z : lf (tWh np ng kd (dy, jy, pr) jx 2 jv) 61 ≤ 60
      · rw [if_pos (by exact z)] at c1
        have m1 := k4.qX (qX.tr a3 c3)
        obtain ⟨σ2, d1, d2⟩ := em_first (f := 2) (v := jv) k1 k2 hx (by omega) (by omega) m1
        rw [if_pos z] at d1
        refine stp_q (nI (lf (tWh np ng kd (dy, jy, pr) jx 2 jv) 61)) h ?_ (qX.tr a3 c3) ?_ d2
        · unfold m_X11_comes
          simp only [nu_lit, fnd3]
          rw [ex_isPresentT k3.2.2.1 o2 hx, nu_b, if_neg nI10, ex_isPersonT k3.2.1 o1 hv, nu_b, if_neg nI10, a1, nu_b]
          exact c1
        · unfold m_X12_comes
          simp only [nu_lit]
          rw [em_isPresentT m1.2.2.1 o2 hx, nu_b, if_neg nI10, em_isPersonT m1.2.1 o1 hv, nu_b, if_neg nI10, d1, nu_b]
      · rw [if_neg (by exact z)] at c1
        refine stp_qf 3 (by decide) h ?_ (qX.tr a3 c3) (fun τ hs => ?_)
        · unfold m_X11_comes
          simp only [nu_lit, fnd3]
          rw [ex_isPresentT k3.2.2.1 o2 hx, nu_b, if_neg nI10, ex_isPersonT k3.2.1 o1 hv, nu_b, if_neg nI10, a1, nu_b]
          exact c1
        · have m1 := (k4.qX (qX.tr a3 c3)).keep (fun k => hs 97 k (by omega))
          obtain ⟨σ2, d1, d2⟩ := em_first (f := 2) (v := jv) k1 k2 hx (by omega) (by omega) m1
          rw [if_neg z] at d1
          refine ⟨σ2, ?_, d2⟩
          unfold m_X12_comes
          simp only [nu_lit]
          rw [em_isPresentT m1.2.2.1 o2 hx, nu_b, if_neg nI10, em_isPersonT m1.2.1 o1 hv, nu_b, if_neg nI10, d1, em_no _ (by decide), nu_b, nu_b]
    · refine stp_find 0 (by decide) h ?_ (fun σ1 hs => ?_)
      · unfold m_X11_comes
        simp only [nu_lit, fnd0]
        rw [ex_isPresentT k3.2.2.1 o2 hx, nu_b, if_neg nI10, ex_isPersonF k3.2.1 o1 hv, nu_b, if_pos rfl]
      · have m1 := k4.keep (fun k => hs 97 k (by omega))
        unfold m_X12_comes
        simp only [nu_lit]
        rw [em_isPresentT m1.2.2.1 o2 hx, nu_b, if_neg nI10, em_isPersonF m1.2.1 o1 hv, nu_b, if_pos rfl]
  · refine stp_find 0 (by decide) h ?_ (fun σ1 hs => ?_)
    · unfold m_X11_comes
      simp only [nu_lit, fnd0]
      rw [ex_isPresentF k3.2.2.1 o2 hx, nu_b, if_pos rfl]
    · have m1 := k4.keep (fun k => hs 97 k (by omega))
      unfold m_X12_comes
      simp only [nu_lit]
      rw [em_isPresentF m1.2.2.1 o2 hx, nu_b, if_pos rfl]
