/-! READING A BOOK -/
theorem lgE (x y : Int64) : (lg_cmp x y = nI 0) ↔ x = y := lg_cmp_eq x y
def alF (p : Nat → Bool) : Nat → Nat → Bool
  | 0, _ => true
  | m + 1, i => if p i then alF p m (i + 1) else false
theorem em_end2 {σ τ : fm_M} (h : mTr σ τ) : ∃ τ', m_X12_laysBack τ = some ((), τ') ∧ mTr σ τ' ∧ ∀ k, k < 96 → τ'.1 97 k = σ.1 97 k := by
  obtain ⟨τ', v1, v2, v3⟩ := em_laysBack τ
  exact ⟨τ', v1, h.go v3 (fun a k z => Or.inl z.1), fun k hk => by rw [v2 k hk, h.1 k hk]⟩
theorem mTr.q {σ τ : fm_M} (h : mTr σ τ) (h2 : ∀ k, k < 96 → τ.1 97 k = σ.1 97 k) : fEq sM σ τ := by
  refine ⟨fun a k z => ?_, h.2.2⟩
  by_cases e : a = 97
  · subst e; exact h2 k (by unfold sM at z; omega)
  · exact h.2.1 a k (by unfold sM at z; omega)
/-- what the sheet says of day i -/
def tSo (nm : Nat → Int64) (np ng : Nat) (kd : Nat → Nat) (q : Nat × (Nat → Nat) × (Nat → Nat → Nat)) (j : Nat) : Nat → Bool := fun i => decide (nm i = (nI ((tDays np ng kd i q).2.1 j)).toInt64)
theorem ex_goesAsLoop {dy np ng s j N : Nat} {kd jy : Nat → Nat} {pr : Nat → Nat → Nat} {nm : Nat → Int64} (ho : tOk dy np ng kd jy pr) (h9 : dy ≤ 9999) (hs : s < 4) (hj : j < np) (hN : N ≤ 40) : ∀ (m fuel i : Nat) (σ : fm_M), m < fuel → i + m = N → σ.1 (84 + 2 * s) 2 = nI N → (∀ k, k < N → σ.2 (84 + 2 * s + 1) k = nm k) → xTown σ 58 (tDays np ng kd (i - 1) (dy, jy, pr)).1 np ng kd (tDays np ng kd (i - 1) (dy, jy, pr)).2.1 (tDays np ng kd (i - 1) (dy, jy, pr)).2.2 → ∃ σ', m_X11_trialGoesAs_2 (fun (x1_y7 : Nat) (x2_y7) (x3_y7) (σ_y7) => some ((nI 1), σ_y7)) fuel (84 + 2 * s) (nI j) (nI i) σ = some (nI (if alF (tSo nm np ng kd (dy, jy, pr) j) m i then 1 else 0), σ') ∧ fEq sX σ σ' := by
  have o1 := ho.1
  intro m
  induction m with
  | zero =>
    intro fuel i σ hf hi h1 h2 ht
    obtain ⟨n, rfl⟩ : ∃ n, fuel = n + 1 := ⟨fuel - 1, by omega⟩
    refine ⟨σ, ?_, fEq.rf⟩
    rw [m_X11_trialGoesAs_2, h1, if_pos (by rw [nu_le (by omega) (by omega)]; omega)]
    rfl
  | succ m ih =>
    intro fuel i σ hf hi h1 h2 ht
    obtain ⟨n, rfl⟩ : ∃ n, fuel = n + 1 := ⟨fuel - 1, by omega⟩
    have go : ∃ σ1, xTown σ1 58 (tDays np ng kd i (dy, jy, pr)).1 np ng kd (tDays np ng kd i (dy, jy, pr)).2.1 (tDays np ng kd i (dy, jy, pr)).2.2 ∧ fEq sX σ σ1 ∧ ∀ (K : fm_M → Option (Int32 × fm_M)), (if nI i ≤ nI 0 then K σ else (fm_b (m_X10_oneDay 58 σ) fun _u4 σ5 => K σ5)) = K σ1 := by
      by_cases z : i = 0
      · subst z
        exact ⟨σ, ht, fEq.rf, fun K => by rw [if_pos (by decide)]⟩
      · obtain ⟨σ1, u1, u2, u3⟩ := ex_go1 (i := i - 1) ho (by omega) ht
        rw [show i - 1 + 1 = i by omega] at u2
        exact ⟨σ1, u2, u3, fun K => by rw [if_neg (by rw [nu_le (by omega) (by omega)]; omega), u1, nu_b]⟩
    obtain ⟨σ1, u2, u3, u4⟩ := go
    have e1 : σ1.1 (84 + 2 * s) 2 = nI N := by rw [u3.1 _ _ (by unfold sX; omega)]; exact h1
    have e2 : σ1.2 (84 + 2 * s + 1) i = nm i := by rw [u3.2]; exact h2 i (by omega)
    have head : m_X11_trialGoesAs_2 (fun (x1_y7 : Nat) (x2_y7) (x3_y7) (σ_y7) => some ((nI 1), σ_y7)) (n + 1) (84 + 2 * s) (nI j) (nI i) σ = if (lg_cmp ((nI ((tDays np ng kd i (dy, jy, pr)).2.1 j)).toInt64) (nm i)) = nI 0 then (m_X11_trialGoesAs_2 (fun (x1_y7 : Nat) (x2_y7) (x3_y7) (σ_y7) => some ((nI 1), σ_y7)) n (84 + 2 * s) (nI j) (nI (i + 1)) σ1) else (some ((nI 0), σ1)) := by
      rw [m_X11_trialGoesAs_2, h1, if_neg (by rw [nu_le (by omega) (by omega)]; omega)]
      simp only [nu_lit, nI_add, nu_j]
      refine (u4 (fun s5 => fm_g (fm_in1 (nI j) 6) (fm_g (fm_in1 (nI i) 40) (if lg_cmp (s5.1 (58 + 2 + (nI j).toNatClampNeg) 1).toInt64 (s5.2 (84 + 2 * s + 1) (nI i).toNatClampNeg) = nI 0 then (m_X11_trialGoesAs_2 (fun (x1_y7 : Nat) (x2_y7) (x3_y7) (σ_y7) => some ((nI 1), σ_y7)) n (84 + 2 * s) (nI j) (nI (i + 1)) s5) else some (nI 0, s5))))).trans ?_
      rw [nu_in (by omega) (by decide), nu_g, nu_in (by omega) (by decide), nu_g, nu_cl (n := j) (by omega), nu_cl (n := i) (by omega), (u2.2.2.2.1 j hj).2, e2]
    by_cases z : nm i = (nI ((tDays np ng kd i (dy, jy, pr)).2.1 j)).toInt64
    · obtain ⟨σ', v1, v2⟩ := ih n (i + 1) σ1 (by omega) (by omega) e1 (fun k hk => by rw [u3.2]; exact h2 k hk) (by rw [Nat.add_sub_cancel]; exact u2)
      refine ⟨σ', ?_, qX.tr u3 v2⟩
      rw [head, if_pos ((lgE _ _).mpr z.symm), v1, alF, if_pos (show tSo nm np ng kd (dy, jy, pr) j i = true by simp [tSo, z])]
    · refine ⟨σ1, ?_, u3⟩
      rw [head, if_neg (fun y => z ((lgE _ _).mp y).symm), alF, if_neg (show ¬ tSo nm np ng kd (dy, jy, pr) j i = true by simp [tSo, z])]
      rfl
theorem em_isSoLoop {σ : fm_M} {dy np ng s j N : Nat} {kd jy : Nat → Nat} {pr : Nat → Nat → Nat} {nm : Nat → Int64} (ho : tOk dy np ng kd jy pr) (h9 : dy ≤ 9999) (hs : s < 4) (hj : j < np) (hN : N ≤ 40) (r1 : σ.1 107 s = nI N) (r2 : ∀ k, k < N → σ.2 108 (40 * s + k) = nm k) : ∀ (m fuel i : Nat) (τ : fm_M), m + 1 < fuel → i + m = N → mTr σ τ → mTown τ 97 (tDays np ng kd i (dy, jy, pr)).1 np ng kd (tDays np ng kd i (dy, jy, pr)).2.1 (tDays np ng kd i (dy, jy, pr)).2.2 → ∃ τ', m_X12_isSo_5 (fun (x1_y12) (x2_y12) (x3_y12) (x4_y12) (σ_y12) => fm_g (fm_bz x3_y12) (some (x3_y12, σ_y12))) fuel (nI s) (nI j) (nI 1) (nI i) τ = some (nI (if alF (tSo nm np ng kd (dy, jy, pr) j) m i then 1 else 0), τ') ∧ mTr σ τ' := by
  have o1 := ho.1
  intro m
  induction m with
  | zero =>
    intro fuel i τ hf hi h ht
    obtain ⟨n, rfl⟩ : ∃ n, fuel = n + 1 := ⟨fuel - 1, by omega⟩
    have q1 : τ.1 107 s = nI N := (h.2.1 107 s (by omega)).trans r1
    refine ⟨τ, ?_, h⟩
    rw [m_X12_isSo_5, nu_in hs (by decide), nu_g, nu_cl (n := s) (by omega), q1, if_pos (by rw [nu_le (by omega) (by omega)]; omega), nu_bz1, nu_g]
    rfl
  | succ m ih =>
    intro fuel i τ hf hi h ht
    obtain ⟨n, rfl⟩ : ∃ n, fuel = n + 1 := ⟨fuel - 1, by omega⟩
    have q1 : τ.1 107 s = nI N := (h.2.1 107 s (by omega)).trans r1
    have q2 : τ.2 108 (40 * s + i) = nm i := by rw [h.2.2]; exact r2 i (by omega)
    obtain ⟨τ1, u1, u2, u3⟩ := em_day1 ho (by omega) ht h
    have q3 : τ1.1 107 s = nI N := (u3.2.1 107 s (by omega)).trans r1
    by_cases z : nm i = (nI ((tDays np ng kd i (dy, jy, pr)).2.1 j)).toInt64
    · obtain ⟨τ', v1, v2⟩ := ih n (i + 1) τ1 (by omega) (by omega) u3 u2
      refine ⟨τ', ?_, v2⟩
      rw [m_X12_isSo_5, nu_in hs (by decide), nu_g, nu_cl (n := s) (by omega), q1, if_neg (by rw [nu_le (by omega) (by omega)]; omega)]
      simp only [nu_lit, nI_add, nu_j]
      rw [if_neg nI10, em_told hs (by omega), nu_b, em_get _ (by omega), nu_b, q2, show 4 + 2 * j + 1 = 5 + 2 * j by omega, (ht.2.2.2.1 j hj).2, if_pos ((lgE _ _).mpr z), u1, nu_b, v1, alF, if_pos (show tSo nm np ng kd (dy, jy, pr) j i = true by simp [tSo, z])]
    · obtain ⟨n2, rfl⟩ : ∃ n2, n = n2 + 1 := ⟨n - 1, by omega⟩
      refine ⟨τ1, ?_, u3⟩
      rw [m_X12_isSo_5, nu_in hs (by decide), nu_g, nu_cl (n := s) (by omega), q1, if_neg (by rw [nu_le (by omega) (by omega)]; omega)]
      simp only [nu_lit, nI_add, nu_j]
      rw [if_neg nI10, em_told hs (by omega), nu_b, em_get _ (by omega), nu_b, q2, show 4 + 2 * j + 1 = 5 + 2 * j by omega, (ht.2.2.2.1 j hj).2, if_neg (fun y => z ((lgE _ _).mp y)), u1, nu_b, alF, if_neg (show ¬ tSo nm np ng kd (dy, jy, pr) j i = true by simp [tSo, z]), m_X12_isSo_5, nu_in hs (by decide), nu_g, nu_cl (n := s) (by omega), q3]
      simp only [nu_lit]
      rw [if_pos trivial, nu_bz0, nu_g]
      by_cases y : nI N ≤ nI (i + 1)
      · rw [if_pos y]; rfl
      · rw [if_neg y]; rfl
/-- the pairs -/
def tPr (nm : Nat → Int64) (N np ng dy : Nat) (kd jy : Nat → Nat) (pr : Nat → Nat → Nat) (j g c : Nat) : Nat := if alF (tSo nm np ng (fun k => if k = j then c / 100 else kd k) (dy, jy, setP g (rSet (pr g) 1 (c % 100)) pr) j) N 0 then 1 else 0
theorem ex_readIn (kc : Int32 → Int32 → Int32 → Int32 → Int32 → Int32 → fm_M → Option (Int32 × fm_M)) {dy np ng s j g N K : Nat} {kd jy : Nat → Nat} {pr : Nat → Nat → Nat} {nm : Nat → Int64} (ho : tOk dy np ng kd jy pr) (h9 : dy ≤ 9999) (hs : s < 4) (hj : j < np) (hg : g < ng) (hN : N ≤ 40) (hK : K < 6) : ∀ (m fuel i : Nat) (σ : fm_M), m < fuel → i + m = 100 → σ.1 (84 + 2 * s) 2 = nI N → (∀ k, k < N → σ.2 (84 + 2 * s + 1) k = nm k) → xTown σ 8 dy np ng kd jy pr → ∃ σ', m_X11_read_114 kc fuel (nI s) (nI j) (nI g) (nI (sm (tPr nm N np ng dy kd jy pr j g) (100 * K + i))) (nI K) (nI i) σ = kc (nI s) (nI j) (nI g) (nI (sm (tPr nm N np ng dy kd jy pr j g) (100 * K + 100))) (nI K) (nI 100) σ' ∧ fEq sX σ σ' := by
  have o1 := ho.1
  have o2 := ho.2.1
  intro m
  induction m with
  | zero =>
    intro fuel i σ hf hi h1 h2 ht
    obtain ⟨n, rfl⟩ : ∃ n, fuel = n + 1 := ⟨fuel - 1, by omega⟩
    refine ⟨σ, ?_, fEq.rf⟩
    rw [m_X11_read_114]
    simp only [nu_lit]
    rw [if_pos (by rw [nu_lt (by omega) (by omega)]; omega), show i = 100 by omega]
  | succ m ih =>
    intro fuel i σ hf hi h1 h2 ht
    obtain ⟨n, rfl⟩ : ∃ n, fuel = n + 1 := ⟨fuel - 1, by omega⟩
    obtain ⟨σ1, u1, u2, u3⟩ := ex_startTrial ho ht
    have ok1 := ho.setK (j := j) (v := K) hK
    have p2 := u2.setK (v := K) ho hj
    have p3 : fEq sX σ1 (fm_sI σ1 (58 + 2 + j) 0 (nI K)) := fEq.set (Or.inl ⟨by omega, by omega⟩)
    have rk := ok1.2.2.2.2 g hg
    have ok := ok1.setP (g := g) (x := rSet (pr g) 1 i) (rSet_ok1 rk.1 (by omega)) (by simpa [rSet] using rk.2)
    have p5' : fEq (sA (58 + 9 + 2 * g)) (fm_sI σ1 (58 + 2 + j) 0 (nI K)) (fm_sI (fm_sI σ1 (58 + 2 + j) 0 (nI K)) (58 + 9 + 2 * g) 2 (nI i)) := fEq.set (Or.inl rfl)
    have p4 := p2.setP ok1 ((p2.2.2.2.2 g hg).set (f := 1) (v := i) (by omega) (by omega)) p5'
    have q0 := qX.tr (qX.tr u3 p3) (p5'.mono (sA_X (by omega)))
    obtain ⟨σ3, w1, w3⟩ := ex_goesAsLoop (nm := nm) (j := j) (N := N) ok h9 hs hj hN N fm_fu 0 (fm_sI (fm_sI σ1 (58 + 2 + j) 0 (nI K)) (58 + 9 + 2 * g) 2 (nI i)) (by have := nu_fu; omega) (by omega) (by rw [q0.1 _ _ (by unfold sX; omega)]; exact h1) (fun k hk => by rw [q0.2]; exact h2 k hk) p4
    have q3 := qX.tr q0 w3
    obtain ⟨σ', y1, y2⟩ := ih n (i + 1) σ3 (by omega) (by omega) (by rw [q3.1 _ _ (by unfold sX; omega)]; exact h1) (fun k hk => by rw [q3.2]; exact h2 k hk) (ht.q ho q3)
    have goal2 : m_X11_trialGoesAs (84 + 2 * s) (nI j) (fm_sI (fm_sI σ1 (58 + 2 + j) 0 (nI K)) (58 + 9 + 2 * g) 2 (nI i)) = some (nI (tPr nm N np ng dy kd jy pr j g (100 * K + i)), σ3) := by
      unfold m_X11_trialGoesAs
      simp only [nu_lit]
      rw [w1, tPr, show (100 * K + i) / 100 = K by omega, show (100 * K + i) % 100 = i by omega]
      rfl
    have hsm : sm (tPr nm N np ng dy kd jy pr j g) (100 * K + (i + 1)) = sm (tPr nm N np ng dy kd jy pr j g) (100 * K + i) + tPr nm N np ng dy kd jy pr j g (100 * K + i) := rfl
    refine ⟨σ', ?_, qX.tr q3 y2⟩
    rw [m_X11_read_114]
    simp only [nu_lit]
    rw [if_neg (by rw [nu_lt (by omega) (by omega)]; omega), u1, nu_b, nu_in (by omega) (by decide), nu_g, nu_let, nu_cl (n := j) (by omega), nu_in (by omega) (by decide), nu_g, nu_let, nu_cl (n := g) (by omega), nu_in hs (by decide), nu_g, nu_cl (n := s) (by omega), goal2, nu_b]
    simp only [nI_add]
    rw [hsm] at y1
    have t2 : tPr nm N np ng dy kd jy pr j g (100 * K + i) = 0 ∨ tPr nm N np ng dy kd jy pr j g (100 * K + i) = 1 := by
      unfold tPr
      split
      · exact Or.inr rfl
      · exact Or.inl rfl
    rcases t2 with t2 | t2
    · rw [t2, if_pos rfl]
      rw [t2] at y1
      exact y1
    · rw [t2, if_neg nI10]
      rw [t2] at y1
      exact y1
theorem ex_readOut (kc : Int32 → Int32 → Int32 → Int32 → Int32 → fm_M → Option (Int32 × fm_M)) {dy np ng s j g N : Nat} {kd jy : Nat → Nat} {pr : Nat → Nat → Nat} {nm : Nat → Int64} (ho : tOk dy np ng kd jy pr) (h9 : dy ≤ 9999) (hs : s < 4) (hj : j < np) (hg : g < ng) (hN : N ≤ 40) : ∀ (m fuel K : Nat) (σ : fm_M), m < fuel → K + m = 6 → σ.1 (84 + 2 * s) 2 = nI N → (∀ k, k < N → σ.2 (84 + 2 * s + 1) k = nm k) → xTown σ 8 dy np ng kd jy pr → ∃ σ', m_X11_read_104 kc fuel (nI s) (nI j) (nI g) (nI (sm (tPr nm N np ng dy kd jy pr j g) (100 * K))) (nI K) σ = kc (nI s) (nI j) (nI g) (nI (sm (tPr nm N np ng dy kd jy pr j g) 600)) (nI 6) σ' ∧ fEq sX σ σ' := by
  intro m
  induction m with
  | zero =>
    intro fuel K σ hf hi h1 h2 ht
    obtain ⟨n, rfl⟩ : ∃ n, fuel = n + 1 := ⟨fuel - 1, by omega⟩
    refine ⟨σ, ?_, fEq.rf⟩
    rw [m_X11_read_104]
    simp only [nu_lit]
    rw [if_pos (by rw [nu_le (by omega) (by omega)]; omega), show K = 6 by omega]
  | succ m ih =>
    intro fuel K σ hf hi h1 h2 ht
    obtain ⟨n, rfl⟩ : ∃ n, fuel = n + 1 := ⟨fuel - 1, by omega⟩
    obtain ⟨σ1, u1, u2⟩ := ex_readIn (fun (x1_y31) (x2_y31) (x3_y31) (x4_y31) (x5_y31) (x6_y31) (σ_y31) => m_X11_read_104 kc n x1_y31 x2_y31 x3_y31 x4_y31 (x5_y31 + (nI 1)) σ_y31) (K := K) (nm := nm) ho h9 hs hj hg hN (by omega) 100 fm_fu 0 σ (by have := nu_fu; omega) (by omega) h1 h2 ht
    obtain ⟨σ', y1, y2⟩ := ih n (K + 1) σ1 (by omega) (by omega) (by rw [u2.1 _ _ (by unfold sX; omega)]; exact h1) (fun k hk => by rw [u2.2]; exact h2 k hk) (ht.q ho u2)
    refine ⟨σ', ?_, qX.tr u2 y2⟩
    rw [m_X11_read_104]
    simp only [nu_lit]
    rw [if_neg (by rw [nu_le (by omega) (by omega)]; omega), show sm (tPr nm N np ng dy kd jy pr j g) (100 * K) = sm (tPr nm N np ng dy kd jy pr j g) (100 * K + 0) from rfl, u1, nI_add]
    exact y1
theorem em_readLoop (kc : Int32 → Int32 → Int32 → Int32 → Int32 → fm_M → Option (Int32 × fm_M)) {σ : fm_M} {dy np ng s j g N : Nat} {kd jy : Nat → Nat} {pr : Nat → Nat → Nat} {nm : Nat → Int64} (ho : tOk dy np ng kd jy pr) (h9 : dy ≤ 9999) (hs : s < 4) (hj : j < np) (hg : g < ng) (hN : N ≤ 40) (r1 : σ.1 107 s = nI N) (r2 : ∀ k, k < N → σ.2 108 (40 * s + k) = nm k) (h0 : mTown σ 97 dy np ng kd jy pr) : ∀ (m fuel c : Nat) (τ : fm_M), m < fuel → c + m = 600 → mTr σ τ → (∀ k, k < 96 → τ.1 97 k = σ.1 97 k) → ∃ τ', m_X12_read_53 kc fuel (nI s) (nI j) (nI g) (nI (sm (tPr nm N np ng dy kd jy pr j g) c)) (nI c) τ = kc (nI s) (nI j) (nI g) (nI (sm (tPr nm N np ng dy kd jy pr j g) 600)) (nI 600) τ' ∧ fEq sM σ τ' := by
  have o1 := ho.1
  have o2 := ho.2.1
  intro m
  induction m with
  | zero =>
    intro fuel c τ hf hi h h2
    obtain ⟨n, rfl⟩ : ∃ n, fuel = n + 1 := ⟨fuel - 1, by omega⟩
    refine ⟨τ, ?_, h.q h2⟩
    rw [m_X12_read_53]
    simp only [nu_lit]
    rw [if_pos (by rw [nu_le (by omega) (by omega)]; omega), show c = 600 by omega]
  | succ m ih =>
    intro fuel c τ hf hi h h2
    obtain ⟨n, rfl⟩ : ∃ n, fuel = n + 1 := ⟨fuel - 1, by omega⟩
    have ht : mTown τ 97 dy np ng kd jy pr := h0.k96 ho h2
    have ok1 := ho.setK (j := j) (v := c / 100) (by omega)
    have p2 := ht.setK (v := c / 100) ho hj
    have p3 : fEq (fun a k => a = 97) τ (fm_sI τ 97 (4 + 2 * j) (nI (c / 100))) := fEq.set rfl
    have rk := ok1.2.2.2.2 g hg
    have ok := ok1.setP (g := g) (x := rSet (pr g) 1 (c % 100)) (rSet_ok1 rk.1 (by omega)) (by simpa [rSet] using rk.2)
    have p5 : fEq (sP g) (fm_sI τ 97 (4 + 2 * j) (nI (c / 100))) (fm_sI (fm_sI τ 97 (4 + 2 * j) (nI (c / 100))) 97 (16 + 10 * g + 1) (nI (c % 100))) := mP_set (by omega)
    have p4 := p2.setP ok1 (mRec.set (f := 1) (v := c % 100) (p2.2.2.2.2 g hg) (by omega) (by omega)) p5
    obtain ⟨τ1, w1, w2⟩ := em_isSoLoop (nm := nm) (σ := σ) (j := j) (N := N) ok h9 hs hj hN r1 r2 N fm_fu 0 (fm_sI (fm_sI τ 97 (4 + 2 * j) (nI (c / 100))) 97 (16 + 10 * g + 1) (nI (c % 100))) (by have := nu_fu; omega) (by omega) ((h.go p3 (fun a k z => Or.inl z)).go p5 sP_18) p4
    obtain ⟨τ2, f1, f2, f3⟩ := em_end2 w2
    have so : m_X12_isSo (nI s) (nI j) (fm_sI (fm_sI τ 97 (4 + 2 * j) (nI (c / 100))) 97 (16 + 10 * g + 1) (nI (c % 100))) = some (nI (tPr nm N np ng dy kd jy pr j g c), τ1) := by
      unfold m_X12_isSo
      simp only [nu_lit]
      rw [w1, tPr]
      rfl
    obtain ⟨τ', y1, y2⟩ := ih n (c + 1) τ2 (by omega) (by omega) f2 f3
    have hsm : sm (tPr nm N np ng dy kd jy pr j g) (c + 1) = sm (tPr nm N np ng dy kd jy pr j g) c + tPr nm N np ng dy kd jy pr j g c := rfl
    refine ⟨τ', ?_, y2⟩
    rw [m_X12_read_53]
    simp only [nu_lit, nu_j]
    rw [if_neg (by rw [nu_le (by omega) (by omega)]; omega), nu_rem (by omega) (by decide) (by decide), nu_div (by omega) (by decide) (by decide), em_puts _ (by omega), nu_b, show 4 + 2 * j + 0 = 4 + 2 * j from rfl, em_lays1 _ (by omega), nu_b, so, nu_b, f1, nu_b, nu_b]
    simp only [nI_add]
    rw [hsm] at y1
    have t2 : tPr nm N np ng dy kd jy pr j g c = 0 ∨ tPr nm N np ng dy kd jy pr j g c = 1 := by
      unfold tPr
      split
      · exact Or.inr rfl
      · exact Or.inl rfl
    rcases t2 with t2 | t2
    · rw [t2, if_pos rfl]
      rw [t2] at y1
      exact y1
    · rw [t2, if_neg nI10]
      rw [t2] at y1
      exact y1
theorem sm_zero {f : Nat → Nat} (h : ∀ i, f i = 0) : ∀ n, sm f n = 0
  | 0 => rfl
  | n + 1 => by rw [sm, sm_zero h n, h n]
theorem op_read (x y w : Int32) {σ : fm_M} (h : Inv σ) : opS (m_X11_read x y w) (m_X12_read x y w) σ := by
  obtain ⟨hR, dy, np, ng, kd, jy, pr, k1, k2, k3, k4⟩ := id h
  have o1 := k1.1
  have o2 := k1.2.1
  rcases nu_ix x (n := 4) (by omega) with ⟨jx, hx, rfl⟩ | hx
  · obtain ⟨g1, g2, n, g3, g4, g5, g6, g7⟩ := hR.2.2.1 jx hx
    by_cases z : σ.1 (84 + 2 * jx) 1 = nI 0
    · refine stp_find 5 (by decide) h ?_ (fun σ1 hs => ?_)
      · unfold m_X11_read
        simp only [nu_lit, fnd5]
        rw [ex_isSheetT hx, nu_b, if_neg nI10, nu_in hx (by decide), nu_g, nu_cl (n := jx) (by omega), ex_missing, nu_b, if_pos z, if_neg nI10]
      · unfold m_X12_read
        simp only [nu_lit, nu_j]
        rw [em_wrongT hx, nu_b, hs _ _ (by omega), g1, if_pos z, if_pos (by decide), if_neg (by decide)]
    · rcases nu_ix y (n := np) (by omega) with ⟨j, hy, rfl⟩ | hy
      · rcases nu_ix w (n := ng) (by omega) with ⟨g, hw, rfl⟩ | hw
        · have mEnd : ∀ σ1, fEq sX σ σ1 → ∃ σ2, m_X12_read (nI jx) (nI j) (nI g) σ1 = some (nI (sm (tPr (fun k => σ.2 (84 + 2 * jx + 1) k) n np ng dy kd jy pr j g) 600), σ2) ∧ fEq sM σ1 σ2 := by
            intro σ1 a2
            have m1 := k4.qX a2
            obtain ⟨τ2, d1, d2, d3⟩ := em_start σ1
            obtain ⟨σ2, b1, b2⟩ := em_readLoop (fun (x1_y21) (x2_y21) (x3_y21) (x5_y21) (x6_y21) (σ_y21) => some (x5_y21, σ_y21)) (nm := fun k => σ.2 (84 + 2 * jx + 1) k) (N := n) k1 k2 hx hy hw g3 (by rw [a2.1 _ _ (by unfold sX; omega)]; exact g5) (fun k hk => by rw [a2.2, g7 k (by omega), show 85 + 2 * jx = 84 + 2 * jx + 1 by omega]) m1 600 fm_fu 0 τ2 (by have := nu_fu; omega) (by omega) d2 (fun k _ => d3 k)
            refine ⟨σ2, ?_, b2⟩
            unfold m_X12_read
            simp only [nu_lit, nu_j]
            rw [em_wrongT hx, nu_b, a2.1 _ _ (by unfold sX; omega), g1, if_neg z, if_neg (by decide), em_isPersonT m1.2.1 o1 hy, nu_b, if_neg nI10, em_isPresentT m1.2.2.1 o2 hw, nu_b, if_neg nI10, if_pos (by decide), d1, nu_b]
            exact b1
          obtain ⟨σ1, a1, a2⟩ := ex_readOut (fun (x1_y32) (x2_y32) (x3_y32) (x4_y32) (x5_y32) (σ_y32) => some (x4_y32, σ_y32)) (nm := fun k => σ.2 (84 + 2 * jx + 1) k) (N := n) k1 k2 hx hy hw g3 6 fm_fu 0 σ (by have := nu_fu; omega) (by omega) g4 (fun k hk => rfl) k3
          by_cases n0 : n = 0
          · obtain ⟨σ2, b1, b2⟩ := mEnd σ1 a2
            refine stp_q _ h ?_ a2 b1 b2
            unfold m_X11_read
            simp only [nu_lit]
            rw [ex_isSheetT hx, nu_b, if_neg nI10, nu_in hx (by decide), nu_g, nu_cl (n := jx) (by omega), ex_missing, nu_b, if_neg z, if_pos rfl, ex_isPersonT k3.2.1 o1 hy, nu_b, if_neg nI10, ex_isPresentT k3.2.2.1 o2 hw, nu_b, if_neg nI10, nu_g, g4, if_pos (by rw [nu_le (by omega) (by omega)]; omega)]
            exact a1
          · by_cases e0 : σ.2 (84 + 2 * jx + 1) 0 = (nI (jy j)).toInt64
            · obtain ⟨σ2, b1, b2⟩ := mEnd σ1 a2
              refine stp_q _ h ?_ a2 b1 b2
              unfold m_X11_read
              simp only [nu_lit]
              rw [ex_isSheetT hx, nu_b, if_neg nI10, nu_in hx (by decide), nu_g, nu_cl (n := jx) (by omega), ex_missing, nu_b, if_neg z, if_pos rfl, ex_isPersonT k3.2.1 o1 hy, nu_b, if_neg nI10, ex_isPresentT k3.2.2.1 o2 hw, nu_b, if_neg nI10, nu_g, g4, if_neg (by rw [nu_le (by omega) (by omega)]; omega), nu_g, nu_in (by decide) (by decide), nu_g, nu_in (by omega) (by decide), nu_g, nu_cl (n := j) (by omega), (k3.2.2.2.1 j hy).2, nu_cl (n := 0) (by omega), if_pos ((lgE _ _).mpr e0)]
              exact a1
            · obtain ⟨σ2, b1, b2⟩ := mEnd σ fEq.rf
              have s0 : sm (tPr (fun k => σ.2 (84 + 2 * jx + 1) k) n np ng dy kd jy pr j g) 600 = 0 := by
                refine sm_zero (fun c => ?_) 600
                unfold tPr
                obtain ⟨n', rfl⟩ : ∃ n', n = n' + 1 := ⟨n - 1, by omega⟩
                rw [alF, if_neg (show ¬ tSo (fun k => σ.2 (84 + 2 * jx + 1) k) np ng (fun k => if k = j then c / 100 else kd k) (dy, jy, setP g (rSet (pr g) 1 (c % 100)) pr) j 0 = true by simp [tSo, tDays, e0])]
                rfl
              rw [s0] at b1
              refine stp_q (nI 0) h ?_ fEq.rf b1 b2
              unfold m_X11_read
              simp only [nu_lit]
              rw [ex_isSheetT hx, nu_b, if_neg nI10, nu_in hx (by decide), nu_g, nu_cl (n := jx) (by omega), ex_missing, nu_b, if_neg z, if_pos rfl, ex_isPersonT k3.2.1 o1 hy, nu_b, if_neg nI10, ex_isPresentT k3.2.2.1 o2 hw, nu_b, if_neg nI10, nu_g, g4, if_neg (by rw [nu_le (by omega) (by omega)]; omega), nu_g, nu_in (by decide) (by decide), nu_g, nu_in (by omega) (by decide), nu_g, nu_cl (n := j) (by omega), (k3.2.2.2.1 j hy).2, nu_cl (n := 0) (by omega), if_neg (fun q => e0 ((lgE _ _).mp q))]
        · refine stp_find 0 (by decide) h ?_ (fun σ1 hs => ?_)
          · unfold m_X11_read
            simp only [nu_lit, fnd0]
            rw [ex_isSheetT hx, nu_b, if_neg nI10, nu_in hx (by decide), nu_g, nu_cl (n := jx) (by omega), ex_missing, nu_b, if_neg z, if_pos rfl, ex_isPersonT k3.2.1 o1 hy, nu_b, if_neg nI10, ex_isPresentF k3.2.2.1 o2 hw, nu_b, if_pos rfl]
          · have m1 := k4.keep (fun k => hs 97 k (by omega))
            unfold m_X12_read
            simp only [nu_lit, nu_j]
            rw [em_wrongT hx, nu_b, hs _ _ (by omega), g1, if_neg z, if_neg (by decide), em_isPersonT m1.2.1 o1 hy, nu_b, if_neg nI10, em_isPresentF m1.2.2.1 o2 hw, nu_b, if_pos rfl, if_neg (by decide)]
      · refine stp_find 0 (by decide) h ?_ (fun σ1 hs => ?_)
        · unfold m_X11_read
          simp only [nu_lit, fnd0]
          rw [ex_isSheetT hx, nu_b, if_neg nI10, nu_in hx (by decide), nu_g, nu_cl (n := jx) (by omega), ex_missing, nu_b, if_neg z, if_pos rfl, ex_isPersonF k3.2.1 o1 hy, nu_b, if_pos rfl]
        · have m1 := k4.keep (fun k => hs 97 k (by omega))
          unfold m_X12_read
          simp only [nu_lit, nu_j]
          rw [em_wrongT hx, nu_b, hs _ _ (by omega), g1, if_neg z, if_neg (by decide), em_isPersonF m1.2.1 o1 hy, nu_b, if_pos rfl, if_neg (by decide)]
  · refine stp_find 0 (by decide) h ?_ (fun σ1 hs => ?_)
    · unfold m_X11_read
      simp only [nu_lit, fnd0]
      rw [ex_isSheetF hx, nu_b, if_pos rfl]
    · unfold m_X12_read
      simp only [nu_lit, nu_j]
      rw [em_wrongF hx, nu_b, if_pos (by decide), if_neg (by decide)]
