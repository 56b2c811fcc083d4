theorem dec_ge {a b : Nat} (ha : a < 2 ^ 20) (hb : b < 2 ^ 20) (h : decide (b ≤ a) = true) : ¬ nI a < nI b := by
  rw [nu_lt (by omega) (by omega)]
  have := of_decide_eq_true h
  omega
theorem dec_lt {a b : Nat} (ha : a < 2 ^ 20) (hb : b < 2 ^ 20) (h : ¬ decide (b ≤ a) = true) : nI a < nI b := by
  rw [nu_lt (by omega) (by omega)]
  have : ¬ b ≤ a := fun y => h (decide_eq_true y)
  omega
theorem ex_leastLoop (kc : Int32 → Int32 → Int32 → Int32 → Int32 → fm_M → Option (Int32 × fm_M)) {dy np ng g N : Nat} {kd jy : Nat → Nat} {pr : Nat → Nat → Nat} (ho : tOk dy np ng kd jy pr) (h9 : dy ≤ 9999) (hN : N ≤ 30) {j v : Nat} (hg : g < ng) (hj : j < np) (hv : v ≤ 9999) : ∀ (m fuel i : Nat) (σ : fm_M), m < fuel → i + m = 99 + 1 → xTown σ 8 dy np ng kd jy pr → ∃ σ', m_X11_least_48 kc fuel (nI g) (nI j) (nI N) (nI v) (nI i) σ = (if tf ((fun t => decide (v ≤ tLeast np ng N dy kd jy pr g j t))) m i ≤ 99 then some (nI (tf ((fun t => decide (v ≤ tLeast np ng N dy kd jy pr g j t))) m i), σ') else kc (nI g) (nI j) (nI N) (nI v) (nI (99 + 1)) σ') ∧ fEq sX σ σ' := by
  have o1 := ho.1
  have o2 := ho.2.1
  intro m
  induction m with
  | zero =>
    intro fuel i σ hf hi ht
    obtain ⟨n, rfl⟩ : ∃ n, fuel = n + 1 := ⟨fuel - 1, by omega⟩
    refine ⟨σ, ?_, fEq.rf⟩
    rw [m_X11_least_48, tf]
    simp only [nu_lit]
    rw [if_pos (by rw [nu_lt (by omega) (by omega)]; omega), if_neg (by omega), show i = 99 + 1 by omega]
  | succ m ih =>
    intro fuel i σ hf hi ht
    obtain ⟨n, rfl⟩ : ∃ n, fuel = n + 1 := ⟨fuel - 1, by omega⟩
    obtain ⟨σ1, u1, u2, u3⟩ := ex_startTrial ho ht
    have rk := ho.2.2.2.2 g hg
    have ok := ho.setP (g := g) (x := rSet (pr g) 1 i) (rSet_ok1 rk.1 (by omega)) (by simpa [rSet] using rk.2)
    have p3' : fEq (sA (58 + 9 + 2 * g)) σ1 (fm_sI σ1 (58 + 9 + 2 * g) 2 (nI i)) := fEq.set (Or.inl rfl)
    have p2 := u2.setP ho ((u2.2.2.2.2 g hg).set (f := 1) (v := i) (by omega) (by omega)) p3'
    have p3 := p3'.mono (sA_X (by omega))
    obtain ⟨σ3, w1, w2, w3⟩ := ex_go58 (N := N) (by omega) ok (by omega) p2
    have q3 := qX.tr (qX.tr u3 p3) w3
    have jb : tLeast np ng N dy kd jy pr g j i ≤ 9999 := ((tDays_ok2 (kd := kd) N ok (by omega)).2.2.2.1 j hj).2
    have jv : σ3.1 (58 + 2 + j) 1 = nI (tLeast np ng N dy kd jy pr g j i) := (w2.2.2.2.1 j hj).2
    by_cases z : (fun t => decide (v ≤ tLeast np ng N dy kd jy pr g j t)) i = true
    · refine ⟨σ3, ?_, q3⟩
      rw [m_X11_least_48, tf]
      simp only [nu_lit, nI_add]
      rw [if_neg (by rw [nu_lt (by omega) (by omega)]; omega), u1, nu_b, nu_in (by omega) (by decide), nu_g, nu_let, nu_cl (by omega), w1, nu_b, nu_in (by omega) (by decide), nu_g, nu_cl (by omega), jv, if_neg (dec_ge (by omega) (by omega) z), if_pos (show (fun t => decide (v ≤ tLeast np ng N dy kd jy pr g j t)) i = true from z), if_pos (by omega)]
    · obtain ⟨σ', y1, y2⟩ := ih n (i + 1) σ3 (by omega) (by omega) (ht.q ho q3)
      refine ⟨σ', ?_, qX.tr q3 y2⟩
      rw [m_X11_least_48, tf]
      simp only [nu_lit, nI_add]
      rw [if_neg (by rw [nu_lt (by omega) (by omega)]; omega), u1, nu_b, nu_in (by omega) (by decide), nu_g, nu_let, nu_cl (by omega), w1, nu_b, nu_in (by omega) (by decide), nu_g, nu_cl (by omega), jv, if_pos (dec_lt (by omega) (by omega) z), if_neg z]
      exact y1
theorem em_leastLoop (kc : Int32 → Int32 → Int32 → Int32 → Int32 → fm_M → Option (Int32 × fm_M)) {dy np ng g N : Nat} {kd jy : Nat → Nat} {pr : Nat → Nat → Nat} (ho : tOk dy np ng kd jy pr) (h9 : dy ≤ 9999) (hN : N ≤ 30) {j v : Nat} (hg : g < ng) (hj : j < np) (hv : v ≤ 9999) : ∀ (m fuel i : Nat) (σ : fm_M), m < fuel → i + m = 99 + 1 → mTown σ 97 dy np ng kd jy pr → ∃ σ', m_X12_least_44 kc fuel (nI g) (nI j) (nI N) (nI v) (nI i) σ = (if tf ((fun t => decide (v ≤ tLeast np ng N dy kd jy pr g j t))) m i ≤ 99 then some (nI (tf ((fun t => decide (v ≤ tLeast np ng N dy kd jy pr g j t))) m i), σ') else kc (nI g) (nI j) (nI N) (nI v) (nI (99 + 1)) σ') ∧ fEq sM σ σ' := by
  have o1 := ho.1
  have o2 := ho.2.1
  intro m
  induction m with
  | zero =>
    intro fuel i σ hf hi ht
    obtain ⟨n, rfl⟩ : ∃ n, fuel = n + 1 := ⟨fuel - 1, by omega⟩
    refine ⟨σ, ?_, fEq.rf⟩
    rw [m_X12_least_44, tf]
    simp only [nu_lit]
    rw [if_pos (by rw [nu_lt (by omega) (by omega)]; omega), if_neg (by omega), show i = 99 + 1 by omega]
  | succ m ih =>
    intro fuel i σ hf hi ht
    obtain ⟨n, rfl⟩ : ∃ n, fuel = n + 1 := ⟨fuel - 1, by omega⟩
    obtain ⟨τ1, u1, u2, u3⟩ := em_start σ
    have t1 := ht.keep u3
    have rk := ho.2.2.2.2 g hg
    have ok := ho.setP (g := g) (x := rSet (pr g) 1 i) (rSet_ok1 rk.1 (by omega)) (by simpa [rSet] using rk.2)
    have p3' : fEq (sP g) τ1 (fm_sI τ1 97 (16 + 10 * g + 1) (nI i)) := mP_set (by omega)
    have p2 := t1.setP ho (mRec.set (f := 1) (v := i) (t1.2.2.2.2 g hg) (by omega) (by omega)) p3'
    obtain ⟨σ3, w1, q3⟩ := em_joyOne (N := N) (by omega) ok (by omega) p2 hj (u2.go p3' sP_18)
    have jb : tLeast np ng N dy kd jy pr g j i ≤ 9999 := ((tDays_ok2 (kd := kd) N ok (by omega)).2.2.2.1 j hj).2
    have jv : m_X12_joyThen (nI j) (nI N) (fm_sI τ1 97 (16 + 10 * g + 1) (nI i)) = some (nI (tLeast np ng N dy kd jy pr g j i), σ3) := w1
    by_cases z : (fun t => decide (v ≤ tLeast np ng N dy kd jy pr g j t)) i = true
    · refine ⟨σ3, ?_, q3⟩
      rw [m_X12_least_44, tf]
      simp only [nu_lit, nI_add, nu_j]
      rw [if_neg (by rw [nu_lt (by omega) (by omega)]; omega), u1, nu_b, em_lays1 _ (by omega), nu_b, jv, nu_b, if_neg (dec_ge (by omega) (by omega) z), if_pos (show (fun t => decide (v ≤ tLeast np ng N dy kd jy pr g j t)) i = true from z), if_pos (by omega)]
    · obtain ⟨σ', y1, y2⟩ := ih n (i + 1) σ3 (by omega) (by omega) (ht.q ho q3)
      refine ⟨σ', ?_, qM.tr q3 y2⟩
      rw [m_X12_least_44, tf]
      simp only [nu_lit, nI_add, nu_j]
      rw [if_neg (by rw [nu_lt (by omega) (by omega)]; omega), u1, nu_b, em_lays1 _ (by omega), nu_b, jv, nu_b, if_pos (dec_lt (by omega) (by omega) z), if_neg z]
      exact y1
theorem op_least (x y v w : Int32) {σ : fm_M} (h : Inv σ) : opS (m_X11_least x y v w) (m_X12_least x y v w) σ := by
  obtain ⟨hR, dy, np, ng, kd, jy, pr, k1, k2, k3, k4⟩ := id h
  have o1 := k1.1
  have o2 := k1.2.1
  rcases nu_ix x (n := ng) (by omega) with ⟨jx, hx, rfl⟩ | hx
  · rcases nu_ix y (n := np) (by omega) with ⟨jp, hy, rfl⟩ | hy
    · rcases nu_ix1 v (n := 30) (by decide) with ⟨jv, gv, hv, rfl⟩ | hv
      · rcases nu_ix w (n := 10000) (by omega) with ⟨jw, hw, rfl⟩ | hw
        · obtain ⟨σ1, a1, a2⟩ := ex_leastLoop (fun (x1_y32) (x2_y32) (x3_y32) (x4_y32) (x5_y32) (σ_y32) => fm_b (m_X11_tell (fnd 3) σ_y32) fun r33 σ34 => (some (r33, σ34))) k1 k2 (N := jv) (by omega) (v := jw) hx hy (by omega) (99 + 1) fm_fu 0 σ (by have := nu_fu; omega) (by omega) k3
          by_cases z : tf ((fun t => decide (jw ≤ tLeast np ng jv dy kd jy pr jx jp t))) (99 + 1) 0 ≤ 99
          · rw [if_pos z] at a1
            have m1 := k4.qX a2
            obtain ⟨σ2, b1, b2⟩ := em_leastLoop (fun (x1_y31) (x2_y31) (x3_y31) (x4_y31) (x5_y31) (σ_y31) => fm_b (m_X12_no (nI 3) σ_y31) fun r32 σ33 => (some (r32, σ33))) k1 k2 (N := jv) (by omega) (v := jw) hx hy (by omega) (99 + 1) fm_fu 0 σ1 (by have := nu_fu; omega) (by omega) m1
            rw [if_pos z] at b1
            refine stp_q (nI (tf ((fun t => decide (jw ≤ tLeast np ng jv dy kd jy pr jx jp t))) (99 + 1) 0)) h ?_ a2 ?_ b2
            · unfold m_X11_least
              simp only [nu_lit, fnd3]
              rw [ex_isPresentT k3.2.2.1 o2 hx, nu_b, if_neg nI10, ex_isPersonT k3.2.1 o1 hy, nu_b, if_neg nI10, ex_wT (by omega) (by omega) (by decide), nu_b, if_neg nI10, ex_wT (by omega) (by omega) (by decide), nu_b, if_neg nI10]
              exact a1
            · unfold m_X12_least
              simp only [nu_lit]
              rw [em_isPresentT m1.2.2.1 o2 hx, nu_b, if_neg nI10, em_isPersonT m1.2.1 o1 hy, nu_b, if_neg nI10, em_isSoonT gv hv, nu_b, if_neg nI10, em_in1T _ (by omega) (by omega) (by decide), nu_b, if_neg nI10]
              exact b1
          · rw [if_neg z] at a1
            refine stp_qf 3 (by decide) h ?_ a2 (fun τ hs => ?_)
            · unfold m_X11_least
              simp only [nu_lit, fnd3]
              rw [ex_isPresentT k3.2.2.1 o2 hx, nu_b, if_neg nI10, ex_isPersonT k3.2.1 o1 hy, nu_b, if_neg nI10, ex_wT (by omega) (by omega) (by decide), nu_b, if_neg nI10, ex_wT (by omega) (by omega) (by decide), nu_b, if_neg nI10]
              exact a1
            · have m1 := (k4.qX a2).keep (fun k => hs 97 k (by omega))
              obtain ⟨σ2, b1, b2⟩ := em_leastLoop (fun (x1_y31) (x2_y31) (x3_y31) (x4_y31) (x5_y31) (σ_y31) => fm_b (m_X12_no (nI 3) σ_y31) fun r32 σ33 => (some (r32, σ33))) k1 k2 (N := jv) (by omega) (v := jw) hx hy (by omega) (99 + 1) fm_fu 0 τ (by have := nu_fu; omega) (by omega) m1
              rw [if_neg z] at b1
              refine ⟨σ2, ?_, b2⟩
              unfold m_X12_least
              simp only [nu_lit]
              rw [em_isPresentT m1.2.2.1 o2 hx, nu_b, if_neg nI10, em_isPersonT m1.2.1 o1 hy, nu_b, if_neg nI10, em_isSoonT gv hv, nu_b, if_neg nI10, em_in1T _ (by omega) (by omega) (by decide), nu_b, if_neg nI10]
              exact b1
        · refine stp_find 0 (by decide) h ?_ (fun σ1 hs => ?_)
          · unfold m_X11_least
            simp only [nu_lit, fnd0]
            rw [ex_isPresentT k3.2.2.1 o2 hx, nu_b, if_neg nI10, ex_isPersonT k3.2.1 o1 hy, nu_b, if_neg nI10, ex_wT (by omega) (by omega) (by decide), nu_b, if_neg nI10, ex_wF hw (by decide), nu_b, if_pos rfl]
          · have m1 := k4.keep (fun k => hs 97 k (by omega))
            unfold m_X12_least
            simp only [nu_lit]
            rw [em_isPresentT m1.2.2.1 o2 hx, nu_b, if_neg nI10, em_isPersonT m1.2.1 o1 hy, nu_b, if_neg nI10, em_isSoonT gv hv, nu_b, if_neg nI10, em_wF hw (by decide), nu_b, if_pos rfl]
      · refine stp_find 0 (by decide) h ?_ (fun σ1 hs => ?_)
        · unfold m_X11_least
          simp only [nu_lit, fnd0]
          rw [ex_isPresentT k3.2.2.1 o2 hx, nu_b, if_neg nI10, ex_isPersonT k3.2.1 o1 hy, nu_b, if_neg nI10, em_within, if_neg hv, nu_b, if_pos rfl]
        · have m1 := k4.keep (fun k => hs 97 k (by omega))
          unfold m_X12_least
          simp only [nu_lit]
          rw [em_isPresentT m1.2.2.1 o2 hx, nu_b, if_neg nI10, em_isPersonT m1.2.1 o1 hy, nu_b, if_neg nI10, em_isSoonF hv, nu_b, if_pos rfl]
    · refine stp_find 0 (by decide) h ?_ (fun σ1 hs => ?_)
      · unfold m_X11_least
        simp only [nu_lit, fnd0]
        rw [ex_isPresentT k3.2.2.1 o2 hx, nu_b, if_neg nI10, ex_isPersonF k3.2.1 o1 hy, nu_b, if_pos rfl]
      · have m1 := k4.keep (fun k => hs 97 k (by omega))
        unfold m_X12_least
        simp only [nu_lit]
        rw [em_isPresentT m1.2.2.1 o2 hx, nu_b, if_neg nI10, em_isPersonF m1.2.1 o1 hy, nu_b, if_pos rfl]
  · refine stp_find 0 (by decide) h ?_ (fun σ1 hs => ?_)
    · unfold m_X11_least
      simp only [nu_lit, fnd0]
      rw [ex_isPresentF k3.2.2.1 o2 hx, nu_b, if_pos rfl]
    · have m1 := k4.keep (fun k => hs 97 k (by omega))
      unfold m_X12_least
      simp only [nu_lit]
      rw [em_isPresentF m1.2.2.1 o2 hx, nu_b, if_pos rfl]
-- the happiest
def hap (jy : Nat → Nat) : Nat → Nat → Nat → Nat
  | 0, _, b => b
  | m + 1, i, b => if jy i ≤ jy b then hap jy m (i + 1) b else hap jy m (i + 1) i
theorem ex_hapLoop (kc : Int32 → Int32 → fm_M → Option (Int32 × fm_M)) {σ : fm_M} {dy np ng : Nat} {kd jy : Nat → Nat} {pr : Nat → Nat → Nat} (ho : tOk dy np ng kd jy pr) (ht : xTown σ 58 dy np ng kd jy pr) : ∀ (m fuel i b : Nat), m < fuel → i + m = np → b < np → m_X11_happiest_50 kc fuel (nI b) (nI i) σ = kc (nI (hap jy m i b)) (nI np) σ := by
  have o1 := ho.1
  intro m
  induction m with
  | zero =>
    intro fuel i b hf hi hb
    obtain ⟨n, rfl⟩ : ∃ n, fuel = n + 1 := ⟨fuel - 1, by omega⟩
    rw [m_X11_happiest_50, ht.2.1, if_pos (by rw [nu_le (by omega) (by omega)]; omega), hap, show i = np by omega]
  | succ m ih =>
    intro fuel i b hf hi hb
    obtain ⟨n, rfl⟩ : ∃ n, fuel = n + 1 := ⟨fuel - 1, by omega⟩
    have j1 := (ho.2.2.2.1 i (by omega)).2
    have j2 := (ho.2.2.2.1 b hb).2
    rw [m_X11_happiest_50, ht.2.1, if_neg (by rw [nu_le (by omega) (by omega)]; omega), nu_in (by omega) (by decide), nu_g, nu_in (by omega) (by decide), nu_g, nu_cl (n := i) (by omega), nu_cl (n := b) (by omega), (ht.2.2.2.1 i (by omega)).2, (ht.2.2.2.1 b hb).2, hap]
    simp only [nu_lit, nI_add]
    by_cases z : jy i ≤ jy b
    · rw [if_pos (by rw [nu_le (by omega) (by omega)]; exact z), if_pos z]
      exact ih n (i + 1) b (by omega) (by omega) hb
    · rw [if_neg (by rw [nu_le (by omega) (by omega)]; exact z), if_neg z]
      exact ih n (i + 1) i (by omega) (by omega) (by omega)
theorem em_hapLoop (kc : Int32 → Int32 → fm_M → Option (Int32 × fm_M)) {σ : fm_M} {dy np ng : Nat} {kd jy : Nat → Nat} {pr : Nat → Nat → Nat} (ho : tOk dy np ng kd jy pr) (ht : mTown σ 97 dy np ng kd jy pr) : ∀ (m fuel i b : Nat), m < fuel → i + m = np → b < np → m_X12_happiest_41 kc fuel (nI b) (nI i) σ = kc (nI (hap jy m i b)) (nI np) σ := by
  have o1 := ho.1
  intro m
  induction m with
  | zero =>
    intro fuel i b hf hi hb
    obtain ⟨n, rfl⟩ : ∃ n, fuel = n + 1 := ⟨fuel - 1, by omega⟩
    rw [m_X12_happiest_41]
    simp only [nu_lit]
    rw [nu_in (by decide) (by decide), nu_g, nu_cl (n := 1) (by omega), ht.2.1, if_pos (by rw [nu_le (by omega) (by omega)]; omega), hap, show i = np by omega]
  | succ m ih =>
    intro fuel i b hf hi hb
    obtain ⟨n, rfl⟩ : ∃ n, fuel = n + 1 := ⟨fuel - 1, by omega⟩
    have j1 := (ho.2.2.2.1 i (by omega)).2
    have j2 := (ho.2.2.2.1 b hb).2
    rw [m_X12_happiest_41]
    simp only [nu_lit, nI_add]
    rw [nu_in (by decide) (by decide), nu_g, nu_cl (n := 1) (by omega), ht.2.1, if_neg (by rw [nu_le (by omega) (by omega)]; omega), em_get _ (by omega), nu_b, em_get _ (by omega), nu_b, show 4 + 2 * i + 1 = 5 + 2 * i by omega, show 4 + 2 * b + 1 = 5 + 2 * b by omega, (ht.2.2.2.1 i (by omega)).2, (ht.2.2.2.1 b hb).2, hap]
    by_cases z : jy i ≤ jy b
    · rw [if_pos (by rw [nu_le (by omega) (by omega)]; exact z), if_pos z]
      exact ih n (i + 1) b (by omega) (by omega) hb
    · rw [if_neg (by rw [nu_le (by omega) (by omega)]; exact z), if_neg z]
      exact ih n (i + 1) i (by omega) (by omega) (by omega)
theorem op_happiest (v : Int32) {σ : fm_M} (h : Inv σ) : opS (m_X11_happiest v) (m_X12_happiest v) σ := by
  obtain ⟨hR, dy, np, ng, kd, jy, pr, k1, k2, k3, k4⟩ := id h
  have o1 := k1.1
  have o2 := k1.2.1
  rcases nu_ix v (n := 61) (by omega) with ⟨jv, hv, rfl⟩ | hv
  · by_cases z0 : np = 0
    · refine stp_find 3 (by decide) h ?_ (fun σ1 hs => ?_)
      · unfold m_X11_happiest
        simp only [nu_lit, fnd3]
        rw [ex_wT (by omega) (by omega) (by decide), nu_b, if_neg nI10, k3.2.1, z0, if_pos rfl]
      · have m1 := k4.keep (fun k => hs 97 k (by omega))
        unfold m_X12_happiest
        simp only [nu_lit]
        rw [em_isAheadT hv, nu_b, if_neg nI10, nu_in (by decide) (by decide), nu_g, nu_cl (n := 1) (by omega), m1.2.1, z0, if_pos rfl]
    · have ok := tDays_ok2 (kd := kd) jv k1 (by omega)
      obtain ⟨τ1, a1, a2, a3⟩ := ex_startTrial k1 k3
      obtain ⟨σ1, c1, c2, c3⟩ := ex_go58 (N := jv) (by omega) k1 (by omega) a2
      have m1 := k4.qX (qX.tr a3 c3)
      obtain ⟨τ2, d1, d2, d3⟩ := em_start σ1
      obtain ⟨τ3, e1, e2, e3⟩ := em_go (N := jv) (by omega) k1 (by omega) (m1.keep d3) d2
      obtain ⟨σ2, f1, f2⟩ := em_end e3
      have z1 : ¬ nI np = nI 0 := by rw [nu_eq (by omega) (by decide)]; exact z0
      refine stp_q (nI (hap (tDays np ng kd jv (dy, jy, pr)).2.1 (np - 1) 1 0)) h ?_ (qX.tr a3 c3) ?_ f2
      · unfold m_X11_happiest
        simp only [nu_lit]
        rw [ex_wT (by omega) (by omega) (by decide), nu_b, if_neg nI10, k3.2.1, if_neg z1, a1, nu_b, c1, nu_b]
        exact ex_hapLoop _ ok c2 (np - 1) fm_fu 1 0 (by have := nu_fu; omega) (by omega) (by omega)
      · unfold m_X12_happiest
        simp only [nu_lit]
        rw [em_isAheadT hv, nu_b, if_neg nI10, nu_in (by decide) (by decide), nu_g, nu_cl (n := 1) (by omega), m1.2.1, if_neg z1, d1, nu_b, e1, nu_b, em_hapLoop _ ok e2 (np - 1) fm_fu 1 0 (by have := nu_fu; omega) (by omega) (by omega), f1, nu_b]
  · refine stp_find 0 (by decide) h ?_ (fun σ1 hs => ?_)
    · unfold m_X11_happiest
      simp only [nu_lit, fnd0]
      rw [ex_wF hv (by decide), nu_b, if_pos rfl]
    · have m1 := k4.keep (fun k => hs 97 k (by omega))
      unfold m_X12_happiest
      simp only [nu_lit]
      rw [em_isAheadF hv, nu_b, if_pos rfl]
-- enough
def rPushN (p : Nat) : Nat → (Nat → Nat) → Nat → Nat
  | 0, x => x
  | m + 1, x => rPushN p m (rPush p x)
theorem rPushN_ok {p : Nat} (hp : p < 4) : ∀ (m : Nat) (x : Nat → Nat), rOk x → x 0 + m ≤ 6 → rOk (rPushN p m x) ∧ rPushN p m x 2 = x 2
  | 0, x, h, _ => ⟨h, rfl⟩
  | m + 1, x, h, h6 => by
    have := rPushN_ok hp m (rPush p x) (rPush_ok h (by omega) hp) (by simp [rPush]; omega)
    exact ⟨this.1, by rw [rPushN, this.2]; simp [rPush]⟩
def setP (g : Nat) (x : Nat → Nat) (pr : Nat → Nat → Nat) : Nat → Nat → Nat := fun i => if i = g then x else pr i
theorem setP_setP {g : Nat} {x y : Nat → Nat} {pr : Nat → Nat → Nat} : (fun i => if i = g then y else setP g x pr i) = setP g y pr := by
  funext i
  unfold setP
  by_cases z : i = g
  · simp [z]
  · simp [z]
theorem setP_self {g : Nat} {pr : Nat → Nat → Nat} : setP g (pr g) pr = pr := by
  funext i
  unfold setP
  by_cases z : i = g
  · simp [z]
  · simp [z]
theorem setP_at {g : Nat} {x : Nat → Nat} {pr : Nat → Nat → Nat} : setP g x pr g = x := by simp [setP]
theorem ex_enLoop (kc : Int32 → Int32 → Int32 → Int32 → Int32 → Int32 → fm_M → Option (Int32 × fm_M)) {dy np ng g p M : Nat} {kd jy : Nat → Nat} {pr : Nat → Nat → Nat} {z3 z4 : Int32} (hp : p < 4) (hg : g < ng) (hM : M ≤ 6) : ∀ (m fuel i : Nat) (σ : fm_M) (x : Nat → Nat), m < fuel → i + m = M → x 0 + m ≤ 6 → tOk dy np ng kd jy (setP g x pr) → xTown σ 58 dy np ng kd jy (setP g x pr) → ∃ σ', m_X11_enough_88 kc fuel (nI g) (nI p) z3 z4 (nI M) (nI i) σ = kc (nI g) (nI p) z3 z4 (nI M) (nI M) σ' ∧ tOk dy np ng kd jy (setP g (rPushN p m x) pr) ∧ xTown σ' 58 dy np ng kd jy (setP g (rPushN p m x) pr) ∧ fEq sX σ σ' := by
  intro m
  induction m with
  | zero =>
    intro fuel i σ x hf hi h6 ho ht
    obtain ⟨n, rfl⟩ : ∃ n, fuel = n + 1 := ⟨fuel - 1, by omega⟩
    refine ⟨σ, ?_, ho, ht, fEq.rf⟩
    rw [m_X11_enough_88, if_pos (by rw [nu_le (by omega) (by omega)]; omega), show i = M by omega]
  | succ m ih =>
    intro fuel i σ x hf hi h6 ho ht
    obtain ⟨n, rfl⟩ : ∃ n, fuel = n + 1 := ⟨fuel - 1, by omega⟩
    have o2 := ho.2.1
    have rk := ho.2.2.2.2 g hg
    rw [setP_at] at rk
    have xg := ht.2.2.2.2 g hg
    rw [setP_at] at xg
    obtain ⟨σ1, p1, p2', p3'⟩ := ex_layAbout (q := p) xg (by omega)
    have ok := ho.setP (g := g) (rPush_ok (p := p) rk.1 (by omega) hp) (by simpa [rPush] using rk.2)
    have p2 := ht.setP ho p2' p3'
    rw [setP_setP] at ok p2
    obtain ⟨σ', y1, y2, y3, y4⟩ := ih n (i + 1) σ1 (rPush p x) (by omega) (by omega) (by simp [rPush]; omega) ok p2
    refine ⟨σ', ?_, y2, y3, qX.tr (p3'.mono (sA_X (by omega))) y4⟩
    rw [m_X11_enough_88, if_neg (by rw [nu_le (by omega) (by omega)]; omega), nu_in (by omega) (by decide), nu_g, nu_cl (by omega), p1, nu_b]
    simp only [nu_lit, nI_add]
    exact y1
theorem em_enLoop (kc : Int32 → Int32 → Int32 → Int32 → Int32 → fm_M → Option (Int32 × fm_M)) {σ : fm_M} {dy np ng g p M : Nat} {kd jy : Nat → Nat} {pr : Nat → Nat → Nat} {z4 : Int32} (hp : p < 4) (hg : g < ng) (hM : M ≤ 6) : ∀ (m fuel i : Nat) (τ : fm_M) (x : Nat → Nat), m < fuel → i + m = M → x 0 + m ≤ 6 → tOk dy np ng kd jy (setP g x pr) → mTown τ 97 dy np ng kd jy (setP g x pr) → mTr σ τ → ∃ τ', m_X12_isHiddenBy_7 kc fuel (nI g) (nI p) (nI M) z4 (nI i) τ = kc (nI g) (nI p) (nI M) z4 (nI M) τ' ∧ mTown τ' 97 dy np ng kd jy (setP g (rPushN p m x) pr) ∧ mTr σ τ' := by
  intro m
  induction m with
  | zero =>
    intro fuel i τ x hf hi h6 ho ht h
    obtain ⟨n, rfl⟩ : ∃ n, fuel = n + 1 := ⟨fuel - 1, by omega⟩
    refine ⟨τ, ?_, ht, h⟩
    rw [m_X12_isHiddenBy_7, if_pos (by rw [nu_le (by omega) (by omega)]; omega), show i = M by omega]
  | succ m ih =>
    intro fuel i τ x hf hi h6 ho ht h
    obtain ⟨n, rfl⟩ : ∃ n, fuel = n + 1 := ⟨fuel - 1, by omega⟩
    have o2 := ho.2.1
    have rk := ho.2.2.2.2 g hg
    rw [setP_at] at rk
    have xg := ht.2.2.2.2 g hg
    rw [setP_at] at xg
    obtain ⟨τ1, p1, p2', p3'⟩ := em_addsLayer (q := p) (by omega) xg (by omega)
    have ok := ho.setP (g := g) (rPush_ok (p := p) rk.1 (by omega) hp) (by simpa [rPush] using rk.2)
    have p2 := ht.setP ho p2' p3'
    rw [setP_setP] at ok p2
    obtain ⟨τ', y1, y2, y3⟩ := ih n (i + 1) τ1 (rPush p x) (by omega) (by omega) (by simp [rPush]; omega) ok p2 (h.go p3' sP_18)
    refine ⟨τ', ?_, y2, y3⟩
    rw [m_X12_isHiddenBy_7, if_neg (by rw [nu_le (by omega) (by omega)]; omega), p1, nu_b]
    simp only [nu_lit, nI_add]
    exact y1
def tEno (np ng N dy : Nat) (kd jy : Nat → Nat) (pr : Nat → Nat → Nat) (g p : Nat) : Nat → Bool := fun m => decide ((tDays np ng kd N (dy, jy, setP g (rPushN p m (pr g)) pr)).2.2 g 3 = 0)
theorem em_hidden {σ : fm_M} {dy np ng g p M N : Nat} {kd jy : Nat → Nat} {pr : Nat → Nat → Nat} (ho : tOk dy np ng kd jy pr) (h9 : dy ≤ 9999) (hN : N ≤ 30) (hp : p < 4) (hg : g < ng) (hM : pr g 0 + M ≤ 6) (ht : mTown σ 97 dy np ng kd jy pr) : ∃ σ', m_X12_isHiddenBy (nI g) (nI p) (nI M) (nI N) σ = some (nI (if tEno np ng N dy kd jy pr g p M then 1 else 0), σ') ∧ fEq sM σ σ' := by
  have o2 := ho.2.1
  obtain ⟨τ, d1, d2, d3⟩ := em_start σ
  have t1 := ht.keep d3
  have rk := ho.2.2.2.2 g hg
  have rn := rPushN_ok hp M (pr g) rk.1 hM
  have ok : tOk dy np ng kd jy (setP g (rPushN p M (pr g)) pr) := ho.setP (g := g) rn.1 (by rw [rn.2]; exact rk.2)
  unfold m_X12_isHiddenBy
  simp only [nu_lit, nu_j]
  obtain ⟨τ1, w1, w2, w3⟩ := em_enLoop (fun (x1_y7) (x2_y7) (x3_y7) (x4_y7) (x5_y7) (σ_y7) => fm_b (m_X12_goes x4_y7 σ_y7) fun _u8 σ9 => (fm_b (m_X12_of1 x1_y7 (nI 3) σ9) fun r11 σ12 => if r11 = nI 0 then fm_b (m_X12_laysBack  σ12) fun _u15 σ16 => (fm_g (fm_bz (nI 1)) (some (nI 1, σ16))) else fm_b (m_X12_laysBack  σ12) fun _u15 σ16 => (fm_g (fm_bz (nI 0)) (some (nI 0, σ16))))) (z4 := nI N) (σ := σ) (kd := kd) (jy := jy) (pr := pr) (dy := dy) (np := np) (ng := ng) (g := g) (p := p) (M := M) hp hg (by omega) M fm_fu 0 τ (pr g) (by have := nu_fu; omega) (by omega) hM (by rw [setP_self]; exact ho) (by rw [setP_self]; exact t1) d2
  obtain ⟨τ2, e1, e2, e3⟩ := em_go (N := N) (by omega) ok (by omega) w2 w3
  obtain ⟨σ', f1, f2⟩ := em_end e3
  have q3 := ((tDays_ok2 (kd := kd) N ok (by omega)).2.2.2.2 g hg).1.2.2.1
  refine ⟨σ', ?_, f2⟩
  rw [d1, nu_b, w1, e1, nu_b, em_of1 _ (by omega), nu_b, e2.2.2.2.2 g hg 3 (by omega), f1, nu_b, nu_b, nu_bz1, nu_bz0, nu_g, nu_g]
  by_cases z : (tDays np ng kd N (dy, jy, setP g (rPushN p M (pr g)) pr)).2.2 g 3 = 0
  · rw [if_pos (by rw [z]), if_pos (by simp [tEno, z])]
  · rw [if_neg (by rw [nu_eq (by omega) (by decide)]; exact z), if_neg (by simp [tEno, z])]
theorem ex_enoughLoop (kc : Int32 → Int32 → Int32 → Int32 → Int32 → fm_M → Option (Int32 × fm_M)) {dy np ng g p N : Nat} {kd jy : Nat → Nat} {pr : Nat → Nat → Nat} (ho : tOk dy np ng kd jy pr) (h9 : dy ≤ 9999) (hN : N ≤ 30) (hp : p < 4) (hg : g < ng) : ∀ (m fuel i : Nat) (σ : fm_M), m < fuel → i + m = 6 - pr g 0 + 1 → xTown σ 8 dy np ng kd jy pr → ∃ σ', m_X11_enough_74 kc fuel (nI g) (nI p) (nI N) (nI (6 - pr g 0)) (nI i) σ = (if tf (tEno np ng N dy kd jy pr g p) m i ≤ 6 - pr g 0 then some (nI (tf (tEno np ng N dy kd jy pr g p) m i), σ') else kc (nI g) (nI p) (nI N) (nI (6 - pr g 0)) (nI (6 - pr g 0 + 1)) σ') ∧ fEq sX σ σ' := by
  have o2 := ho.2.1
  have rk := ho.2.2.2.2 g hg
  have r6 := rk.1.1
  intro m
  induction m with
  | zero =>
    intro fuel i σ hf hi ht
    obtain ⟨n, rfl⟩ : ∃ n, fuel = n + 1 := ⟨fuel - 1, by omega⟩
    refine ⟨σ, ?_, fEq.rf⟩
    rw [m_X11_enough_74, tf, if_pos (by rw [nu_lt (by omega) (by omega)]; omega), if_neg (by omega), show i = 6 - pr g 0 + 1 by omega]
  | succ m ih =>
    intro fuel i σ hf hi ht
    obtain ⟨n, rfl⟩ : ∃ n, fuel = n + 1 := ⟨fuel - 1, by omega⟩
    obtain ⟨σ1, u1, u2, u3⟩ := ex_startTrial ho ht
    obtain ⟨σ2, w1, ok, w2, w3⟩ := ex_enLoop (fun (x1_y25) (x2_y25) (x3_y25) (x4_y25) (x5_y25) (x6_y25) (σ_y25) => fm_b (m_X10_goOn 58 x3_y25 σ_y25) fun _u26 σ27 => (fm_g (fm_in1 x1_y25 8) (if (σ27.1 (58 + 9 + 2 * x1_y25.toNatClampNeg) 4) = nI 0 then (some (x5_y25, σ27)) else (m_X11_enough_74 kc n x1_y25 x2_y25 x3_y25 x4_y25 (x5_y25 + (nI 1)) σ27)))) (z3 := nI N) (z4 := nI (6 - pr g 0)) (kd := kd) (jy := jy) (pr := pr) (dy := dy) (np := np) (ng := ng) (g := g) (p := p) (M := i) hp hg (by omega) i fm_fu 0 σ1 (pr g) (by have := nu_fu; omega) (by omega) (by omega) (by rw [setP_self]; exact ho) (by rw [setP_self]; exact u2)
    obtain ⟨σ3, c1, c2, c3⟩ := ex_go58 (N := N) (by omega) ok (by omega) w2
    have q3 := qX.tr (qX.tr u3 w3) c3
    have b3 := ((tDays_ok2 (kd := kd) N ok (by omega)).2.2.2.2 g hg).1.2.2.1
    have x3 : σ3.1 (58 + 9 + 2 * g) 4 = nI ((tDays np ng kd N (dy, jy, setP g (rPushN p i (pr g)) pr)).2.2 g 3) := (c2.2.2.2.2 g hg).1 3 (by omega)
    by_cases z : (tDays np ng kd N (dy, jy, setP g (rPushN p i (pr g)) pr)).2.2 g 3 = 0
    · refine ⟨σ3, ?_, q3⟩
      rw [m_X11_enough_74, tf]
      simp only [nu_lit]
      rw [if_neg (by rw [nu_lt (by omega) (by omega)]; omega), u1, nu_b, w1, c1, nu_b, nu_in (by omega) (by decide), nu_g, nu_cl (by omega), x3, if_pos (by rw [z]), if_pos (show tEno np ng N dy kd jy pr g p i = true by simp [tEno, z]), if_pos (by omega)]
    · obtain ⟨σ', y1, y2⟩ := ih n (i + 1) σ3 (by omega) (by omega) (ht.q ho q3)
      refine ⟨σ', ?_, qX.tr q3 y2⟩
      rw [m_X11_enough_74, tf]
      simp only [nu_lit]
      rw [if_neg (by rw [nu_lt (by omega) (by omega)]; omega), u1, nu_b, w1, c1, nu_b, nu_in (by omega) (by decide), nu_g, nu_cl (by omega), x3, if_neg (by rw [nu_eq (by omega) (by decide)]; exact z), if_neg (show ¬ tEno np ng N dy kd jy pr g p i = true by simp [tEno, z]), nI_add]
      exact y1
theorem em_enoughLoop (kc : Int32 → Int32 → Int32 → Int32 → fm_M → Option (Int32 × fm_M)) {dy np ng g p N : Nat} {kd jy : Nat → Nat} {pr : Nat → Nat → Nat} (ho : tOk dy np ng kd jy pr) (h9 : dy ≤ 9999) (hN : N ≤ 30) (hp : p < 4) (hg : g < ng) : ∀ (m fuel i : Nat) (σ : fm_M), m < fuel → i + m = 6 - pr g 0 + 1 → mTown σ 97 dy np ng kd jy pr → ∃ σ', m_X12_enough_47 kc fuel (nI g) (nI p) (nI N) (nI i) σ = (if tf (tEno np ng N dy kd jy pr g p) m i ≤ 6 - pr g 0 then some (nI (tf (tEno np ng N dy kd jy pr g p) m i), σ') else kc (nI g) (nI p) (nI N) (nI (6 - pr g 0 + 1)) σ') ∧ fEq sM σ σ' := by
  have o2 := ho.2.1
  have rk := ho.2.2.2.2 g hg
  have r6 := rk.1.1
  intro m
  induction m with
  | zero =>
    intro fuel i σ hf hi ht
    obtain ⟨n, rfl⟩ : ∃ n, fuel = n + 1 := ⟨fuel - 1, by omega⟩
    refine ⟨σ, ?_, fEq.rf⟩
    rw [m_X12_enough_47, tf]
    simp only [nu_lit]
    rw [em_of1 _ (by omega), nu_b, ht.2.2.2.2 g hg 0 (by omega), nu_sub r6, if_pos (by rw [nu_lt (by omega) (by omega)]; omega), if_neg (by omega), show i = 6 - pr g 0 + 1 by omega]
  | succ m ih =>
    intro fuel i σ hf hi ht
    obtain ⟨n, rfl⟩ : ∃ n, fuel = n + 1 := ⟨fuel - 1, by omega⟩
    obtain ⟨σ3, w1, q3⟩ := em_hidden (p := p) (M := i) (N := N) ho h9 hN hp hg (by omega) ht
    by_cases z : tEno np ng N dy kd jy pr g p i = true
    · refine ⟨σ3, ?_, q3⟩
      rw [m_X12_enough_47, tf]
      simp only [nu_lit]
      rw [em_of1 _ (by omega), nu_b, ht.2.2.2.2 g hg 0 (by omega), nu_sub r6, if_neg (by rw [nu_lt (by omega) (by omega)]; omega), w1, nu_b, if_pos z, if_neg nI10, if_pos z, if_pos (by omega)]
    · obtain ⟨σ', y1, y2⟩ := ih n (i + 1) σ3 (by omega) (by omega) (ht.q ho q3)
      refine ⟨σ', ?_, qM.tr q3 y2⟩
      rw [m_X12_enough_47, tf]
      simp only [nu_lit]
      rw [em_of1 _ (by omega), nu_b, ht.2.2.2.2 g hg 0 (by omega), nu_sub r6, if_neg (by rw [nu_lt (by omega) (by omega)]; omega), w1, nu_b, if_neg z, if_pos rfl, if_neg z, nI_add]
      exact y1
theorem op_enough (x w v : Int32) {σ : fm_M} (h : Inv σ) : opS (m_X11_enough x w v) (m_X12_enough x w v) σ := by
  obtain ⟨hR, dy, np, ng, kd, jy, pr, k1, k2, k3, k4⟩ := id h
  have o1 := k1.1
  have o2 := k1.2.1
  rcases nu_ix x (n := ng) (by omega) with ⟨jx, hx, rfl⟩ | hx
  · rcases nu_ix w (n := 4) (by omega) with ⟨jw, hw, rfl⟩ | hw
    · rcases nu_ix1 v (n := 30) (by decide) with ⟨jv, gv, hv, rfl⟩ | hv
      · obtain ⟨hr, hr2⟩ := k1.2.2.2.2 jx hx
        have h0 := hr.1
        have h3 := hr.2.2.1
        have xj := k3.2.2.2.2 jx hx
        have e0 : σ.1 (8 + 9 + 2 * jx) 1 = nI (pr jx 0) := xj.n
        have e3 : σ.1 (8 + 9 + 2 * jx) 4 = nI (pr jx 3) := xj.1 3 (by omega)
        by_cases z3 : pr jx 3 = 1
        · refine stp_find 4 (by decide) h ?_ (fun σ1 hs => ?_)
          · unfold m_X11_enough
            simp only [nu_lit, fnd4]
            rw [ex_isPresentT k3.2.2.1 o2 hx, nu_b, if_neg nI10, ex_isPaperT hw, nu_b, if_neg nI10, ex_wT (by omega) (by omega) (by decide), nu_b, if_neg nI10, nu_in (by omega) (by decide), nu_g, nu_cl (by omega), e3, z3, if_neg nI10]
          · have m1 := k4.keep (fun k => hs 97 k (by omega))
            unfold m_X12_enough
            simp only [nu_lit]
            rw [em_isPresentT m1.2.2.1 o2 hx, nu_b, if_neg nI10, em_isPaperT hw, nu_b, if_neg nI10, em_isSoonT gv hv, nu_b, if_neg nI10, em_of1 _ (by omega), nu_b, m1.2.2.2.2 jx hx 3 (by omega), z3, if_pos rfl]
        · obtain ⟨σ1, a1, a2⟩ := ex_enoughLoop (fun (x1_y30) (x2_y30) (x3_y30) (x4_y30) (x5_y30) (σ_y30) => fm_b (m_X11_tell (fnd 3) σ_y30) fun r31 σ32 => (some (r31, σ32))) k1 k2 (N := jv) (by omega) (p := jw) hw hx ((6 - pr jx 0) + 1) fm_fu 0 σ (by have := nu_fu; omega) (by omega) k3
          by_cases z : tf (tEno np ng jv dy kd jy pr jx jw) ((6 - pr jx 0) + 1) 0 ≤ (6 - pr jx 0)
          · rw [if_pos z] at a1
            have m1 := k4.qX a2
            obtain ⟨σ2, b1, b2⟩ := em_enoughLoop (fun (x1_y25) (x2_y25) (x3_y25) (x4_y25) (σ_y25) => fm_b (m_X12_no (nI 3) σ_y25) fun r26 σ27 => (some (r26, σ27))) k1 k2 (N := jv) (by omega) (p := jw) hw hx ((6 - pr jx 0) + 1) fm_fu 0 σ1 (by have := nu_fu; omega) (by omega) m1
            rw [if_pos z] at b1
            refine stp_q (nI (tf (tEno np ng jv dy kd jy pr jx jw) ((6 - pr jx 0) + 1) 0)) h ?_ a2 ?_ b2
            · unfold m_X11_enough
              simp only [nu_lit, fnd3]
              rw [ex_isPresentT k3.2.2.1 o2 hx, nu_b, if_neg nI10, ex_isPaperT hw, nu_b, if_neg nI10, ex_wT (by omega) (by omega) (by decide), nu_b, if_neg nI10, nu_in (by omega) (by decide), nu_g, nu_cl (by omega), e3, show pr jx 3 = 0 by omega, if_pos rfl, nu_g, e0, nu_sub h0]
              exact a1
            · unfold m_X12_enough
              simp only [nu_lit]
              rw [em_isPresentT m1.2.2.1 o2 hx, nu_b, if_neg nI10, em_isPaperT hw, nu_b, if_neg nI10, em_isSoonT gv hv, nu_b, if_neg nI10, em_of1 _ (by omega), nu_b, m1.2.2.2.2 jx hx 3 (by omega), if_neg (by rw [nu_eq (by omega) (by decide)]; exact z3)]
              exact b1
          · rw [if_neg z] at a1
            refine stp_qf 3 (by decide) h ?_ a2 (fun τ hs => ?_)
            · unfold m_X11_enough
              simp only [nu_lit, fnd3]
              rw [ex_isPresentT k3.2.2.1 o2 hx, nu_b, if_neg nI10, ex_isPaperT hw, nu_b, if_neg nI10, ex_wT (by omega) (by omega) (by decide), nu_b, if_neg nI10, nu_in (by omega) (by decide), nu_g, nu_cl (by omega), e3, show pr jx 3 = 0 by omega, if_pos rfl, nu_g, e0, nu_sub h0]
              exact a1
            · have m1 := (k4.qX a2).keep (fun k => hs 97 k (by omega))
              obtain ⟨σ2, b1, b2⟩ := em_enoughLoop (fun (x1_y25) (x2_y25) (x3_y25) (x4_y25) (σ_y25) => fm_b (m_X12_no (nI 3) σ_y25) fun r26 σ27 => (some (r26, σ27))) k1 k2 (N := jv) (by omega) (p := jw) hw hx ((6 - pr jx 0) + 1) fm_fu 0 τ (by have := nu_fu; omega) (by omega) m1
              rw [if_neg z] at b1
              refine ⟨σ2, ?_, b2⟩
              unfold m_X12_enough
              simp only [nu_lit]
              rw [em_isPresentT m1.2.2.1 o2 hx, nu_b, if_neg nI10, em_isPaperT hw, nu_b, if_neg nI10, em_isSoonT gv hv, nu_b, if_neg nI10, em_of1 _ (by omega), nu_b, m1.2.2.2.2 jx hx 3 (by omega), if_neg (by rw [nu_eq (by omega) (by decide)]; exact z3)]
              exact b1
      · refine stp_find 0 (by decide) h ?_ (fun σ1 hs => ?_)
        · unfold m_X11_enough
          simp only [nu_lit, fnd0]
          rw [ex_isPresentT k3.2.2.1 o2 hx, nu_b, if_neg nI10, ex_isPaperT hw, nu_b, if_neg nI10, em_within, if_neg hv, nu_b, if_pos rfl]
        · have m1 := k4.keep (fun k => hs 97 k (by omega))
          unfold m_X12_enough
          simp only [nu_lit]
          rw [em_isPresentT m1.2.2.1 o2 hx, nu_b, if_neg nI10, em_isPaperT hw, nu_b, if_neg nI10, em_isSoonF hv, nu_b, if_pos rfl]
    · refine stp_find 0 (by decide) h ?_ (fun σ1 hs => ?_)
      · unfold m_X11_enough
        simp only [nu_lit, fnd0]
        rw [ex_isPresentT k3.2.2.1 o2 hx, nu_b, if_neg nI10, ex_isPaperF hw, nu_b, if_pos rfl]
      · have m1 := k4.keep (fun k => hs 97 k (by omega))
        unfold m_X12_enough
        simp only [nu_lit]
        rw [em_isPresentT m1.2.2.1 o2 hx, nu_b, if_neg nI10, em_isPaperF hw, nu_b, if_pos rfl]
  · refine stp_find 0 (by decide) h ?_ (fun σ1 hs => ?_)
    · unfold m_X11_enough
      simp only [nu_lit, fnd0]
      rw [ex_isPresentF k3.2.2.1 o2 hx, nu_b, if_pos rfl]
    · have m1 := k4.keep (fun k => hs 97 k (by omega))
      unfold m_X12_enough
      simp only [nu_lit]
      rw [em_isPresentF m1.2.2.1 o2 hx, nu_b, if_pos rfl]
