/-! LAYING FROM A SHEET -/
def rApp (q : Nat) (x : Nat → Nat) : Nat → Nat := fun k => if k = 0 then x 0 + 1 else if k = 4 + x 0 then q else x k
theorem ex_inLoop (kc : Nat → Int32 → Int32 → fm_M → Option (Unit × fm_M)) {a : Nat} {q : Int32} : ∀ (i fuel : Nat) (σ : fm_M), i < fuel → i ≤ 5 → ∃ σ', m_X7_layInnermost_14 kc fuel a q (nI i) σ = kc a q (nI 0) σ' ∧ (∀ k, 1 ≤ k → k ≤ i → σ'.1 (a + 1) k = σ.1 (a + 1) (k - 1)) ∧ fEq (fun c k => c = a + 1 ∧ 1 ≤ k ∧ k ≤ i) σ σ' := by
  intro i
  induction i with
  | zero =>
    intro fuel σ hf hi
    obtain ⟨n, rfl⟩ : ∃ n, fuel = n + 1 := ⟨fuel - 1, by omega⟩
    refine ⟨σ, ?_, fun k i1 i2 => by omega, fEq.rf⟩
    rw [m_X7_layInnermost_14]
    simp only [nu_lit]
    rw [if_pos (by decide)]
  | succ i ih =>
    intro fuel σ hf hi
    obtain ⟨n, rfl⟩ : ∃ n, fuel = n + 1 := ⟨fuel - 1, by omega⟩
    obtain ⟨σ', v1, v2, v3⟩ := ih n (fm_sI σ (a + 1) (i + 1) (σ.1 (a + 1) i)) (by omega) (by omega)
    refine ⟨σ', ?_, fun k i1 i2 => ?_, ?_⟩
    · rw [m_X7_layInnermost_14]
      simp only [nu_lit]
      rw [if_neg (by rw [nu_le (by omega) (by omega)]; omega), nu_sub (by omega), Nat.add_sub_cancel, nu_in (by omega) (by decide), nu_g, nu_in (by omega) (by decide), nu_g, nu_let, nu_cl (by omega), nu_cl (by omega), show nI (i + 1) + -nI 1 = nI i from nu_ng i]
      exact v1
    · by_cases z : k = i + 1
      · subst z
        rw [v3.1 _ _ (by omega), nu_sI, if_pos ⟨rfl, rfl⟩]
        rfl
      · rw [v2 k i1 (by omega), nu_sI, if_neg (by omega)]
    · exact fEq.tr (S2 := fun c k => c = a + 1 ∧ 1 ≤ k ∧ k ≤ i) (fEq.set (S := fun c k => c = a + 1 ∧ 1 ≤ k ∧ k ≤ i + 1) ⟨rfl, by omega, Nat.le_refl _⟩) v3 (fun _ _ z => z) (fun c k z => ⟨z.1, z.2.1, by omega⟩)
theorem ex_layInnermost {σ : fm_M} {a q : Nat} {x : Nat → Nat} (hx : xRec σ a x) (h6 : x 0 < 6) : ∃ σ', m_X7_layInnermost a (nI q) σ = some ((), σ') ∧ xRec σ' a (rApp q x) ∧ fEq (sA a) σ σ' := by
  unfold m_X7_layInnermost
  simp only [nu_lit]
  obtain ⟨σ1, v1, v2, v3⟩ := ex_inLoop (fun (x0_y5 : Nat) (x1_y5) (x2_y5) (σ_y5) => fm_g (fm_in1 (nI 0) 6) (fm_let (fm_sI σ_y5 (x0_y5 + 1) (nI 0).toNatClampNeg x1_y5) fun σ7 => (fm_let (fm_sI σ7 x0_y5 1 ((σ7.1 x0_y5 1) + (nI 1))) fun σ9 => (some ((), σ9))))) (a := a) (q := nI q) (x 0) fm_fu σ (by have := nu_fu; omega) (by omega)
  have e1 : (fm_sI σ1 (a + 1) 0 (nI q)).1 a 1 = nI (x 0) := by rw [nu_sI, if_neg (by omega), v3.1 _ _ (by omega)]; exact hx.n
  rw [hx.n, if_neg (by rw [nu_le (by omega) (by omega)]; omega), v1, nu_in (by decide) (by decide), nu_g, nu_cl (n := 0) (by omega), nu_let, e1, nI_add, nu_let]
  refine ⟨_, rfl, ⟨fun f hf => ?_, fun i hi => ?_⟩, ?_⟩
  · by_cases z : f = 0
    · subst z
      rw [nu_sI, if_pos ⟨rfl, rfl⟩]
      rfl
    · rw [nu_sI, if_neg (by omega), nu_sI, if_neg (by omega), v3.1 _ _ (by omega), hx.1 f hf]
      unfold rApp
      rw [if_neg z, if_neg (by omega)]
  · have e0 : rApp q x 0 = x 0 + 1 := rfl
    rw [e0] at hi ⊢
    rw [nu_sI, if_neg (by omega)]
    by_cases z : i = x 0
    · subst z
      rw [nu_sI, if_pos ⟨rfl, by omega⟩]
      unfold rApp
      rw [if_neg (by omega), if_pos rfl]
    · rw [nu_sI, if_neg (by omega), v2 _ (by omega) (by omega), show x 0 + 1 - 1 - i - 1 = x 0 - 1 - i by omega, hx.2 i (by omega)]
      unfold rApp
      rw [if_neg (by omega), if_neg (by omega)]
  · have s1 : fEq (sA a) σ1 (fm_sI σ1 (a + 1) 0 (nI q)) := fEq.set (Or.inr rfl)
    have s2 : fEq (sA a) (fm_sI σ1 (a + 1) 0 (nI q)) (fm_sI (fm_sI σ1 (a + 1) 0 (nI q)) a 1 (nI (x 0 + 1))) := fEq.set (Or.inl rfl)
    exact fEq.tr (S := sA a) (fEq.tr (S := sA a) v3 s1 (fun c k z => Or.inr z.1) (fun _ _ z => z)) s2 (fun _ _ z => z) (fun _ _ z => z)
/-- a present's papers anew -/
def rL (x : Nat → Nat) (qs : Nat → Nat) (I : Nat) : Nat → Nat := fun k => if k = 0 then I else if 4 ≤ k ∧ k < 4 + I then qs (k - 4) else x k
theorem rApp_L {x qs : Nat → Nat} {I : Nat} : rApp (qs I) (rL x qs I) = rL x qs (I + 1) := by
  funext k
  have e0 : rL x qs I 0 = I := rfl
  unfold rApp
  rw [e0]
  by_cases z : k = 0
  · rw [if_pos z]; unfold rL; rw [if_pos z]
  · rw [if_neg z]
    by_cases y : k = 4 + I
    · rw [if_pos y]; unfold rL; rw [if_neg z, if_pos (by omega), y, show 4 + I - 4 = I by omega]
    · rw [if_neg y]; unfold rL; rw [if_neg z, if_neg z]
      by_cases w : 4 ≤ k ∧ k < 4 + I
      · rw [if_pos w, if_pos (by omega)]
      · rw [if_neg w, if_neg (by omega)]
theorem rL_ok {x qs : Nat → Nat} {I : Nat} (h : rOk x) (hI : I ≤ 6) (hq : ∀ i, i < I → qs i < 4) : rOk (rL x qs I) := by
  have e : ∀ f, 1 ≤ f → f < 4 → rL x qs I f = x f := fun f h1 h2 => by unfold rL; rw [if_neg (by omega), if_neg (by omega)]
  refine ⟨hI, by rw [e 1 (by omega) (by omega)]; exact h.2.1, by rw [e 3 (by omega) (by omega)]; exact h.2.2.1, fun i hi => ?_⟩
  have hi' : i < I := hi
  unfold rL
  rw [if_neg (by omega), if_pos (by omega), show 4 + i - 4 = i by omega]
  exact hq i hi'
def qn (v : Int64) : Nat := v.toInt32.toNatClampNeg
theorem qn_ok {v : Int64} (h0 : ¬ v < 0) (h4 : v < 4) : v.toInt32 = nI (qn v) ∧ qn v < 4 := by
  have a0 := Int64.le_iff_toInt_le.mp (Int64.not_lt.mp h0)
  have a4 := Int64.lt_iff_toInt_lt.mp h4
  have b0 : (0 : Int64).toInt = 0 := rfl
  have b4 : (4 : Int64).toInt = 4 := rfl
  rw [b0] at a0
  rw [b4] at a4
  have c : v.toInt = 0 ∨ v.toInt = 1 ∨ v.toInt = 2 ∨ v.toInt = 3 := by omega
  rcases c with c | c | c | c
  · have : v = 0 := Int64.toInt_inj.mp (by rw [c]; rfl)
    subst this; decide
  · have : v = 1 := Int64.toInt_inj.mp (by rw [c]; rfl)
    subst this; decide
  · have : v = 2 := Int64.toInt_inj.mp (by rw [c]; rfl)
    subst this; decide
  · have : v = 3 := Int64.toInt_inj.mp (by rw [c]; rfl)
    subst this; decide
def bdn (nm : Nat → Int64) : Nat → Bool := fun i => decide (¬ (¬ nm i < 0 ∧ nm i < 4))
theorem lgL (x y : Int64) : (lg_cmp x y < nI 0) ↔ x < y := lg_cmp_lt x y
theorem lgG (x y : Int64) : (nI 0 < lg_cmp x y) ↔ y < x := lg_cmp_gt x y
theorem ex_laysLoop (kc : Int32 → Nat → Int32 → Int32 → fm_M → Option (Int32 × fm_M)) {s a M : Nat} {x : Nat → Nat} {nm : Nat → Int64} (hs : s < 4) (hM : M ≤ 6) (ha : a < 84) : ∀ (m fuel i : Nat) (σ : fm_M), m < fuel → i + m = M → (∀ k, k < M → σ.2 (84 + 2 * s + 1) k = nm k) → xRec σ a (rL x (fun k => qn (nm k)) i) → ∃ σ', m_X11_lays_96 kc fuel (nI s) a (nI M) (nI i) σ = kc (nI s) a (nI M) (nI (tf (bdn nm) m i)) σ' ∧ xRec σ' a (rL x (fun k => qn (nm k)) (tf (bdn nm) m i)) ∧ fEq (sA a) σ σ' := by
  intro m
  induction m with
  | zero =>
    intro fuel i σ hf hi h2 hx
    obtain ⟨n, rfl⟩ : ∃ n, fuel = n + 1 := ⟨fuel - 1, by omega⟩
    refine ⟨σ, ?_, hx, fEq.rf⟩
    rw [m_X11_lays_96, tf, if_pos (by rw [nu_le (by omega) (by omega)]; omega)]
  | succ m ih =>
    intro fuel i σ hf hi h2 hx
    obtain ⟨n, rfl⟩ : ∃ n, fuel = n + 1 := ⟨fuel - 1, by omega⟩
    by_cases z0 : nm i < 0
    · have tb : bdn nm i = true := by simp [bdn, z0]
      rw [tf, if_pos tb]
      refine ⟨σ, ?_, hx, fEq.rf⟩
      rw [m_X11_lays_96, if_neg (by rw [nu_le (by omega) (by omega)]; omega), nu_in hs (by decide), nu_g, nu_in (by omega) (by decide), nu_g, nu_cl (n := s) (by omega), nu_cl (n := i) (by omega), h2 i (by omega), if_pos ((lg_cmp_lt _ _).mpr z0)]
    · by_cases z4 : nm i < 4
      · have tb : ¬ bdn nm i = true := by simp [bdn, z0, z4]
        obtain ⟨q1, q2⟩ := qn_ok z0 z4
        obtain ⟨σ1, u1, u2, u3⟩ := ex_layInnermost (q := qn (nm i)) hx (show i < 6 by omega)
        have u2 : xRec σ1 a (rL x (fun k => qn (nm k)) (i + 1)) := by
          have e := rApp_L (x := x) (qs := fun k => qn (nm k)) (I := i)
          rw [← e]; exact u2
        obtain ⟨σ', v1, v2, v3⟩ := ih n (i + 1) σ1 (by omega) (by omega) (fun k hk => by rw [u3.2]; exact h2 k hk) u2
        rw [tf, if_neg tb]
        refine ⟨σ', ?_, v2, fEq.tr u3 v3 (fun _ _ z => z) (fun _ _ z => z)⟩
        rw [m_X11_lays_96, if_neg (by rw [nu_le (by omega) (by omega)]; omega), nu_in hs (by decide), nu_g, nu_in (by omega) (by decide), nu_g, nu_cl (n := s) (by omega), nu_cl (n := i) (by omega), h2 i (by omega), if_neg (fun y => z0 ((lg_cmp_lt _ _).mp y)), if_pos ((lg_cmp_lt _ _).mpr z4), q1, u1, nu_b]
        simp only [nu_lit, nI_add]
        exact v1
      · have tb : bdn nm i = true := by simp [bdn, z4]
        rw [tf, if_pos tb]
        refine ⟨σ, ?_, hx, fEq.rf⟩
        rw [m_X11_lays_96, if_neg (by rw [nu_le (by omega) (by omega)]; omega), nu_in hs (by decide), nu_g, nu_in (by omega) (by decide), nu_g, nu_cl (n := s) (by omega), nu_cl (n := i) (by omega), h2 i (by omega), if_neg (fun y => z0 ((lg_cmp_lt _ _).mp y)), if_neg (fun y => z4 ((lg_cmp_lt _ _).mp y))]
theorem three_four (v : Int64) : (3 : Int64) < v ↔ ¬ v < 4 := by
  rw [Int64.lt_iff_toInt_lt, Int64.lt_iff_toInt_lt]
  have b3 : (3 : Int64).toInt = 3 := rfl
  have b4 : (4 : Int64).toInt = 4 := rfl
  rw [b3, b4]
  omega
theorem em_laysLoop (kc : Int32 → Int32 → Int32 → fm_M → Option (Int32 × fm_M)) {s g N : Nat} {nm : Nat → Int64} (hs : s < 4) (hg : g < 8) (hN : N ≤ 40) : ∀ (m fuel i : Nat) (σ : fm_M), m < fuel → i + m = min N 6 → σ.1 107 s = nI N → (∀ k, k < N → σ.2 108 (40 * s + k) = nm k) → ∃ σ', m_X12_lays_51 kc fuel (nI s) (nI g) (nI i) σ = kc (nI s) (nI g) (nI (tf (bdn nm) m i)) σ' ∧ (∀ k, i ≤ k → k < tf (bdn nm) m i → σ'.1 97 (16 + 10 * g + (4 + k)) = nI (qn (nm k))) ∧ fEq (fun a k => a = 97 ∧ 16 + 10 * g + 4 + i ≤ k ∧ k < 26 + 10 * g) σ σ' := by
  intro m
  induction m with
  | zero =>
    intro fuel i σ hf hi h1 h2
    obtain ⟨n, rfl⟩ : ∃ n, fuel = n + 1 := ⟨fuel - 1, by omega⟩
    refine ⟨σ, ?_, fun k i1 i2 => by rw [tf] at i2; omega, fEq.rf⟩
    rw [m_X12_lays_51, nu_in hs (by decide), nu_g, nu_cl (n := s) (by omega), h1, tf]
    simp only [nu_lit]
    by_cases y : N ≤ i
    · rw [if_pos (by rw [nu_le (by omega) (by omega)]; exact y)]
    · rw [if_neg (by rw [nu_le (by omega) (by omega)]; exact y), if_pos (by rw [nu_le (by omega) (by omega)]; omega)]
  | succ m ih =>
    intro fuel i σ hf hi h1 h2
    obtain ⟨n, rfl⟩ : ∃ n, fuel = n + 1 := ⟨fuel - 1, by omega⟩
    by_cases z0 : nm i < 0
    · have tb : bdn nm i = true := by simp [bdn, z0]
      rw [tf, if_pos tb]
      refine ⟨σ, ?_, fun k i1 i2 => by omega, fEq.rf⟩
      rw [m_X12_lays_51, nu_in hs (by decide), nu_g, nu_cl (n := s) (by omega), h1]
      simp only [nu_lit]
      rw [if_neg (by rw [nu_le (by omega) (by omega)]; omega), if_neg (by rw [nu_le (by omega) (by omega)]; omega), em_told hs (by omega), nu_b, h2 i (by omega), if_pos ((lgL _ _).mpr z0)]
    · by_cases z4 : nm i < 4
      · have tb : ¬ bdn nm i = true := by simp [bdn, z0, z4]
        obtain ⟨q1, q2⟩ := qn_ok z0 z4
        obtain ⟨σ', v1, v2, v3⟩ := ih n (i + 1) (fm_sI σ 97 (16 + 10 * g + (4 + i)) (nI (qn (nm i)))) (by omega) (by omega) (by rw [nu_sI, if_neg (by omega)]; exact h1) (fun k hk => h2 k hk)
        have tg := tf_ge (bdn nm) m (i + 1)
        rw [tf, if_neg tb]
        refine ⟨σ', ?_, fun k i1 i2 => ?_, ?_⟩
        · rw [m_X12_lays_51, nu_in hs (by decide), nu_g, nu_cl (n := s) (by omega), h1]
          simp only [nu_lit, nI_add]
          rw [if_neg (by rw [nu_le (by omega) (by omega)]; omega), if_neg (by rw [nu_le (by omega) (by omega)]; omega), em_told hs (by omega), nu_b, h2 i (by omega), if_neg (fun y => z0 ((lgL _ _).mp y)), em_told hs (by omega), nu_b, h2 i (by omega), if_neg (fun y => (three_four _).mp ((lgG _ _).mp y) z4), em_told hs (by omega), nu_b, h2 i (by omega), q1, em_lays1 _ (by omega), nu_b]
          exact v1
        · by_cases z : k = i
          · subst z
            rw [v3.1 _ _ (by omega), nu_sI, if_pos ⟨rfl, rfl⟩]
          · exact v2 k (by omega) i2
        · exact fEq.tr (S2 := fun a k => a = 97 ∧ 16 + 10 * g + 4 + (i + 1) ≤ k ∧ k < 26 + 10 * g) (fEq.set (S := fun a k => a = 97 ∧ 16 + 10 * g + 4 + i ≤ k ∧ k < 26 + 10 * g) ⟨rfl, by omega, by omega⟩) v3 (fun _ _ z => z) (fun a k z => ⟨z.1, by omega, z.2.2⟩)
      · have tb : bdn nm i = true := by simp [bdn, z4]
        rw [tf, if_pos tb]
        refine ⟨σ, ?_, fun k i1 i2 => by omega, fEq.rf⟩
        rw [m_X12_lays_51, nu_in hs (by decide), nu_g, nu_cl (n := s) (by omega), h1]
        simp only [nu_lit]
        rw [if_neg (by rw [nu_le (by omega) (by omega)]; omega), if_neg (by rw [nu_le (by omega) (by omega)]; omega), em_told hs (by omega), nu_b, h2 i (by omega), if_neg (fun y => z0 ((lgL _ _).mp y)), em_told hs (by omega), nu_b, h2 i (by omega), if_pos ((lgG _ _).mpr ((three_four _).mpr z4))]
theorem op_lays (x y : Int32) {σ : fm_M} (h : Inv σ) : opS (m_X11_lays x y) (m_X12_lays x y) σ := by
  obtain ⟨hR, dy, np, ng, kd, jy, pr, k1, k2, k3, k4⟩ := id h
  have o2 := k1.2.1
  rcases nu_ix x (n := 4) (by omega) with ⟨s, hx, rfl⟩ | hx
  · obtain ⟨g1, g2, n, g3, g4, g5, g6, g7⟩ := hR.2.2.1 s hx
    by_cases z : σ.1 (84 + 2 * s) 1 = nI 0
    · refine stp_find 5 (by decide) h ?_ (fun σ1 hs => ?_)
      · unfold m_X11_lays
        simp only [nu_lit, fnd5]
        rw [ex_isSheetT hx, nu_b, if_neg nI10, nu_in hx (by decide), nu_g, nu_cl (n := s) (by omega), ex_missing, nu_b, if_pos z, if_neg nI10]
      · unfold m_X12_lays
        simp only [nu_lit, nu_j]
        rw [em_wrongT hx, nu_b, hs _ _ (by omega), g1, if_pos z, if_pos (by decide), if_neg (by decide)]
    · rcases nu_ix y (n := ng) (by omega) with ⟨j, hy, rfl⟩ | hy
      · obtain ⟨hr, hr2⟩ := k1.2.2.2.2 j hy
        have h3 := hr.2.2.1
        have xj := k3.2.2.2.2 j hy
        have e3 : σ.1 (8 + 9 + 2 * j) 4 = nI (pr j 3) := xj.1 3 (by omega)
        by_cases z3 : pr j 3 = 1
        · refine stp_find 4 (by decide) h ?_ (fun σ1 hs => ?_)
          · unfold m_X11_lays
            simp only [nu_lit, fnd4]
            rw [ex_isSheetT hx, nu_b, if_neg nI10, nu_in hx (by decide), nu_g, nu_cl (n := s) (by omega), ex_missing, nu_b, if_neg z, if_pos rfl, ex_isPresentT k3.2.2.1 o2 hy, nu_b, if_neg nI10, nu_in (by omega) (by decide), nu_g, nu_cl (n := j) (by omega), e3, z3, if_neg nI10]
          · have m1 := k4.keep (fun k => hs 97 k (by omega))
            unfold m_X12_lays
            simp only [nu_lit, nu_j]
            rw [em_wrongT hx, nu_b, hs _ _ (by omega), g1, if_neg z, if_neg (by decide), em_isPresentT m1.2.2.1 o2 hy, nu_b, if_neg nI10, em_of1 _ (by omega), nu_b, m1.2.2.2.2 j hy 3 (by omega), z3, if_pos rfl, if_neg (by decide)]
        · have x0 : xRec (fm_sI σ (8 + 9 + 2 * j) 1 (nI 0)) (8 + 9 + 2 * j) (rL (pr j) (fun k => qn (σ.2 (84 + 2 * s + 1) k)) 0) := by
            refine ⟨fun f hf => ?_, fun i hi => absurd (show i < 0 from hi) (by omega)⟩
            by_cases q : f = 0
            · subst q; rw [nu_sI, if_pos ⟨rfl, rfl⟩]; rfl
            · rw [nu_sI, if_neg (by omega), xj.1 f hf]
              unfold rL
              rw [if_neg q, if_neg (by omega)]
          have f0 : fEq (sA (8 + 9 + 2 * j)) σ (fm_sI σ (8 + 9 + 2 * j) 1 (nI 0)) := fEq.set (Or.inl rfl)
          obtain ⟨σ1, a1, a2, a3⟩ := ex_laysLoop (fun (x1_y20) (x3_y20 : Nat) (x4_y20) (x5_y20) (σ_y20) => some ((σ_y20.1 x3_y20 1), σ_y20)) (M := min n 6) (nm := fun k => σ.2 (84 + 2 * s + 1) k) hx (by omega) (by omega) (min n 6) fm_fu 0 (fm_sI σ (8 + 9 + 2 * j) 1 (nI 0)) (by have := nu_fu; omega) (by omega) (fun k hk => rfl) x0
          have a4 : fEq (sA (8 + 9 + 2 * j)) σ σ1 := fEq.tr f0 a3 (fun _ _ q => q) (fun _ _ q => q)
          have e7 : ∀ q k, q ≥ 84 → σ1.1 q k = σ.1 q k := fun q k hq => a4.1 _ _ (fun y => by rcases y with y | y <;> omega)
          have m1 := k4.keep (sA_97 (by omega) a4)
          have tl := tf_le (bdn (fun k => σ.2 (84 + 2 * s + 1) k)) (min n 6) 0
          obtain ⟨τ, b1, b2, b3⟩ := em_laysLoop (fun (x1_y18) (x2_y18) (x4_y18) (σ_y18) => fm_b (m_X12_lays1 x2_y18 (nI 0) x4_y18 σ_y18) fun _u19 σ20 => (some (x4_y18, σ20))) (g := j) (N := n) (nm := fun k => σ.2 (84 + 2 * s + 1) k) hx (by omega) g3 (min n 6) fm_fu 0 σ1 (by have := nu_fu; omega) (by omega) (by rw [e7 _ _ (by omega)]; exact g5) (fun k hk => by rw [a4.2, g7 k (by omega), show 85 + 2 * s = 84 + 2 * s + 1 by omega])
          have mn : (if nI 6 < nI n then nI 6 else nI n) = nI (min n 6) := by
            by_cases q : 6 < n
            · rw [if_pos (by rw [nu_lt (by omega) (by omega)]; exact q), Nat.min_eq_right (by omega)]
            · rw [if_neg (by rw [nu_lt (by omega) (by omega)]; exact q), Nat.min_eq_left (by omega)]
          refine ⟨nI (tf (bdn (fun k => σ.2 (84 + 2 * s + 1) k)) (min n 6) 0), σ1, fm_sI τ 97 (16 + 10 * j + 0) (nI (tf (bdn (fun k => σ.2 (84 + 2 * s + 1) k)) (min n 6) 0)), ?_, ?_, ?_⟩
          · unfold m_X11_lays
            simp only [nu_lit]
            rw [ex_isSheetT hx, nu_b, if_neg nI10, nu_in hx (by decide), nu_g, nu_cl (n := s) (by omega), ex_missing, nu_b, if_neg z, if_pos rfl, ex_isPresentT k3.2.2.1 o2 hy, nu_b, if_neg nI10, nu_in (by omega) (by decide), nu_g, nu_cl (n := j) (by omega), e3, show pr j 3 = 0 by omega, if_pos rfl, nu_let, nu_g, f0.1 (84 + 2 * s) 2 (fun y => by rcases y with y | y <;> omega), g4, mn, a1, a2.n]
            rfl
          · unfold m_X12_lays
            simp only [nu_lit, nu_j]
            rw [em_wrongT hx, nu_b, e7 _ _ (by omega), g1, if_neg z, if_neg (by decide), em_isPresentT m1.2.2.1 o2 hy, nu_b, if_neg nI10, em_of1 _ (by omega), nu_b, m1.2.2.2.2 j hy 3 (by omega), if_neg (by rw [nu_eq (by omega) (by decide)]; exact z3), if_pos (by decide), b1, em_lays1 _ (by omega), nu_b]
          · refine inv_P (x := rL (pr j) (fun k => qn (σ.2 (84 + 2 * s + 1) k)) (tf (bdn (fun k => σ.2 (84 + 2 * s + 1) k)) (min n 6) 0)) hR k1 k2 k3 k4 hy (rL_ok hr (by omega) (fun i hi => ?_)) (by unfold rL; rw [if_neg (by omega), if_neg (by omega)]; exact hr2) a2 a4 (fun f hf => ?_) ?_
            · have tn := tf_no (bdn (fun k => σ.2 (84 + 2 * s + 1) k)) (min n 6) 0 i (by omega) hi
              have : ¬ ¬ (¬ σ.2 (84 + 2 * s + 1) i < 0 ∧ σ.2 (84 + 2 * s + 1) i < 4) := of_decide_eq_false tn
              have t2 := Classical.not_not.mp this
              exact (qn_ok t2.1 t2.2).2
            · have hf' : f < 4 + tf (bdn (fun k => σ.2 (84 + 2 * s + 1) k)) (min n 6) 0 := hf
              by_cases q : f = 0
              · subst q; rw [nu_sI, if_pos ⟨rfl, rfl⟩]; rfl
              · rw [nu_sI, if_neg (by omega)]
                by_cases q4 : f < 4
                · rw [b3.1 _ _ (by omega), m1.2.2.2.2 j hy f (by omega)]
                  unfold rL
                  rw [if_neg q, if_neg (by omega)]
                · have := b2 (f - 4) (by omega) (by omega)
                  rw [show 4 + (f - 4) = f by omega] at this
                  rw [this]
                  unfold rL
                  rw [if_neg q, if_pos (by omega)]
            · exact fEq.tr (S := sP j) b3 (fEq.set (S := sP j) ⟨rfl, by omega, by omega⟩) (fun a k q => ⟨q.1, by omega, q.2.2⟩) (fun _ _ q => q)
      · refine stp_find 0 (by decide) h ?_ (fun σ1 hs => ?_)
        · unfold m_X11_lays
          simp only [nu_lit, fnd0]
          rw [ex_isSheetT hx, nu_b, if_neg nI10, nu_in hx (by decide), nu_g, nu_cl (n := s) (by omega), ex_missing, nu_b, if_neg z, if_pos rfl, ex_isPresentF k3.2.2.1 o2 hy, nu_b, if_pos rfl]
        · have m1 := k4.keep (fun k => hs 97 k (by omega))
          unfold m_X12_lays
          simp only [nu_lit, nu_j]
          rw [em_wrongT hx, nu_b, hs _ _ (by omega), g1, if_neg z, if_neg (by decide), em_isPresentF m1.2.2.1 o2 hy, nu_b, if_pos rfl, if_neg (by decide)]
  · refine stp_find 0 (by decide) h ?_ (fun σ1 hs => ?_)
    · unfold m_X11_lays
      simp only [nu_lit, fnd0]
      rw [ex_isSheetF hx, nu_b, if_pos rfl]
    · unfold m_X12_lays
      simp only [nu_lit, nu_j]
      rw [em_wrongF hx, nu_b, if_pos (by decide), if_neg (by decide)]
