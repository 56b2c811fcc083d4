/-! WHAT IS BEST -/
def pick (v : Nat → Nat) : Nat → Nat → Int32 × Int32 → Int32 × Int32
  | 0, _, s => s
  | m + 1, i, s => pick v m (i + 1) (if nI (v i) ≤ s.2 then s else (nI i, nI (v i)))
theorem em_joyAll {σ τ : fm_M} {dy np ng N : Nat} {kd jy : Nat → Nat} {pr : Nat → Nat → Nat} (hN : N < 2 ^ 10) (ho : tOk dy np ng kd jy pr) (hd : dy + N < 2 ^ 20) (ht : mTown τ 97 dy np ng kd jy pr) (h : mTr σ τ) : ∃ τ', m_X12_joyThen (-nI 1) (nI N) τ = some (nI (sm (tDays np ng kd N (dy, jy, pr)).2.1 np), τ') ∧ fEq sM σ τ' := by
  obtain ⟨τ1, e1, e2, e3⟩ := em_go hN ho hd ht h
  obtain ⟨τ', f1, f2⟩ := em_end e3
  refine ⟨τ', ?_, f2⟩
  unfold m_X12_joyThen
  simp only [nu_lit, nu_j]
  rw [e1, nu_b, if_neg (by decide), em_allJoy (tDays_ok2 N ho hd) e2, nu_b, f1, nu_b]
theorem em_joyOne {σ τ : fm_M} {dy np ng N j : Nat} {kd jy : Nat → Nat} {pr : Nat → Nat → Nat} (hN : N < 2 ^ 10) (ho : tOk dy np ng kd jy pr) (hd : dy + N < 2 ^ 20) (ht : mTown τ 97 dy np ng kd jy pr) (hj : j < np) (h : mTr σ τ) : ∃ τ', m_X12_joyThen (nI j) (nI N) τ = some (nI ((tDays np ng kd N (dy, jy, pr)).2.1 j), τ') ∧ fEq sM σ τ' := by
  have o1 := ho.1
  obtain ⟨τ1, e1, e2, e3⟩ := em_go hN ho hd ht h
  obtain ⟨τ', f1, f2⟩ := em_end e3
  refine ⟨τ', ?_, f2⟩
  unfold m_X12_joyThen
  simp only [nu_lit, nu_j]
  rw [e1, nu_b, if_pos (by rw [nu_le (by decide) (by omega)]; omega), em_get _ (by omega), nu_b, f1, nu_b, show 4 + 2 * j + 1 = 5 + 2 * j by omega, (e2.2.2.2.1 j hj).2]
theorem sA_X {g : Nat} (hg : g < 8) : ∀ a k, sA (58 + 9 + 2 * g) a k → sX a k := fun a k z => by
  rcases z with z | z
  · exact Or.inl ⟨by omega, by omega⟩
  · exact Or.inl ⟨by omega, by omega⟩
theorem sP_18 {g : Nat} : ∀ a k, sP g a k → a = 97 ∨ (a = 96 ∧ k = 5) := fun a k z => Or.inl z.1
theorem xRec.setX {σ : fm_M} {g f v : Nat} {x : Nat → Nat} (hg : g < 8) : fEq (sA (58 + 9 + 2 * g)) σ (fm_sI σ (58 + 9 + 2 * g) f (nI v)) := fEq.set (Or.inl rfl)
theorem mP_set {σ : fm_M} {g f v : Nat} (hf : f < 10) : fEq (sP g) σ (fm_sI σ 97 (16 + 10 * g + f) (nI v)) := fEq.set ⟨rfl, by omega, by omega⟩
def tBest (np ng N dy : Nat) (kd jy : Nat → Nat) (pr : Nat → Nat → Nat) (g : Nat) (p : Nat) : Nat := sm (tDays np ng kd N (dy, jy, fun i => if i = g then rPush p (pr g) else pr i)).2.1 np
def tGivn (np ng N dy : Nat) (kd jy : Nat → Nat) (pr : Nat → Nat → Nat) (g : Nat) (p : Nat) : Nat := sm (tDays np ng kd N (dy, jy, fun i => if i = g then rSet (pr g) 2 p else pr i)).2.1 np
def tKind (np ng N dy : Nat) (kd jy : Nat → Nat) (pr : Nat → Nat → Nat) (j : Nat) (p : Nat) : Nat := (tDays np ng (fun k => if k = j then p else kd k) N (dy, jy, pr)).2.1 j
def tLeast (np ng N dy : Nat) (kd jy : Nat → Nat) (pr : Nat → Nat → Nat) (g j : Nat) (p : Nat) : Nat := (tDays np ng kd N (dy, jy, fun i => if i = g then rSet (pr g) 1 p else pr i)).2.1 j
theorem ex_bestLoop (kc : Int32 → Int32 → Int32 → Int32 → Int32 → fm_M → Option (Int32 × fm_M)) {dy np ng g N : Nat} {kd jy : Nat → Nat} {pr : Nat → Nat → Nat} (ho : tOk dy np ng kd jy pr) (h9 : dy ≤ 9999) (hN : N ≤ 30) (hg : g < ng) (h6 : pr g 0 < 6) : ∀ (m fuel i : Nat) (σ : fm_M) (s : Int32 × Int32), m < fuel → i + m = 4 → xTown σ 8 dy np ng kd jy pr → ∃ σ', m_X11_best_79 kc fuel (nI g) (nI N) s.1 s.2 (nI i) σ = kc (nI g) (nI N) (pick (tBest np ng N dy kd jy pr g) m i s).1 (pick (tBest np ng N dy kd jy pr g) m i s).2 (nI 4) σ' ∧ fEq sX σ σ' := by
  have o1 := ho.1
  have o2 := ho.2.1
  intro m
  induction m with
  | zero =>
    intro fuel i σ s hf hi ht
    obtain ⟨n, rfl⟩ : ∃ n, fuel = n + 1 := ⟨fuel - 1, by omega⟩
    refine ⟨σ, ?_, fEq.rf⟩
    rw [m_X11_best_79, pick]
    simp only [nu_lit]
    rw [if_pos (by rw [nu_le (by omega) (by omega)]; omega), show i = 4 by omega]
  | succ m ih =>
    intro fuel i σ s hf hi ht
    obtain ⟨n, rfl⟩ : ∃ n, fuel = n + 1 := ⟨fuel - 1, by omega⟩
    obtain ⟨σ1, u1, u2, u3⟩ := ex_startTrial ho ht
    have rk := ho.2.2.2.2 g hg
    have ok := ho.setP (g := g) (rPush_ok (p := i) rk.1 h6 (by omega)) (by simpa [rPush] using rk.2)
    obtain ⟨σ2, p1, p2', p3'⟩ := ex_layAbout (q := i) (u2.2.2.2.2 g hg) h6
    have p2 := u2.setP ho p2' p3'
    have p3 := p3'.mono (sA_X (by omega))
    obtain ⟨σ3, w1, w2, w3⟩ := ex_go58 (N := N) (by omega) ok (by omega) p2
    have jv := ex_joyOfAll (tDays_ok2 N ok (by omega)) w2
    have q3 := qX.tr (qX.tr u3 p3) w3
    obtain ⟨σ', y1, y2⟩ := ih n (i + 1) σ3 (if nI (tBest np ng N dy kd jy pr g i) ≤ s.2 then s else (nI i, nI (tBest np ng N dy kd jy pr g i))) (by omega) (by omega) (ht.q ho q3)
    refine ⟨σ', ?_, qX.tr q3 y2⟩
    rw [m_X11_best_79, pick, ← y1]
    simp only [nu_lit, nI_add]
    rw [if_neg (by rw [nu_le (by omega) (by omega)]; omega), u1, nu_b, nu_in (by omega) (by decide), nu_g, nu_cl (by omega), p1, nu_b, w1, nu_b, jv, nu_b]
    by_cases z : nI (tBest np ng N dy kd jy pr g i) ≤ s.2
    · rw [if_pos (by exact z), if_pos z]
    · rw [if_neg (by exact z), if_neg z]
      rfl
theorem em_bestLoop (kc : Int32 → Int32 → Int32 → Int32 → Int32 → fm_M → Option (Int32 × fm_M)) {dy np ng g N : Nat} {kd jy : Nat → Nat} {pr : Nat → Nat → Nat} (ho : tOk dy np ng kd jy pr) (h9 : dy ≤ 9999) (hN : N ≤ 30) (hg : g < ng) (h6 : pr g 0 < 6) : ∀ (m fuel i : Nat) (σ : fm_M) (s : Int32 × Int32), m < fuel → i + m = 4 → mTown σ 97 dy np ng kd jy pr → ∃ σ', m_X12_best_44 kc fuel (nI g) (nI N) s.1 s.2 (nI i) σ = kc (nI g) (nI N) (pick (tBest np ng N dy kd jy pr g) m i s).1 (pick (tBest np ng N dy kd jy pr g) m i s).2 (nI 4) σ' ∧ fEq sM σ σ' := by
  have o1 := ho.1
  have o2 := ho.2.1
  intro m
  induction m with
  | zero =>
    intro fuel i σ s hf hi ht
    obtain ⟨n, rfl⟩ : ∃ n, fuel = n + 1 := ⟨fuel - 1, by omega⟩
    refine ⟨σ, ?_, fEq.rf⟩
    rw [m_X12_best_44, pick]
    simp only [nu_lit]
    rw [if_pos (by rw [nu_le (by omega) (by omega)]; omega), show i = 4 by omega]
  | succ m ih =>
    intro fuel i σ s hf hi ht
    obtain ⟨n, rfl⟩ : ∃ n, fuel = n + 1 := ⟨fuel - 1, by omega⟩
    obtain ⟨τ1, u1, u2, u3⟩ := em_start σ
    have t1 := ht.keep u3
    have rk := ho.2.2.2.2 g hg
    have ok := ho.setP (g := g) (rPush_ok (p := i) rk.1 h6 (by omega)) (by simpa [rPush] using rk.2)
    obtain ⟨τ2, p1, p2', p3'⟩ := em_addsLayer (q := i) (by omega) (t1.2.2.2.2 g hg) h6
    have p2 := t1.setP ho p2' p3'
    obtain ⟨σ3, w1, w3⟩ := em_joyAll (N := N) (by omega) ok (by omega) p2 (u2.go p3' sP_18)
    obtain ⟨σ', y1, y2⟩ := ih n (i + 1) σ3 (if nI (tBest np ng N dy kd jy pr g i) ≤ s.2 then s else (nI i, nI (tBest np ng N dy kd jy pr g i))) (by omega) (by omega) (ht.q ho w3)
    refine ⟨σ', ?_, qM.tr w3 y2⟩
    rw [m_X12_best_44, pick, ← y1]
    simp only [nu_lit, nI_add, nu_j]
    rw [if_neg (by rw [nu_le (by omega) (by omega)]; omega), u1, nu_b, p1, nu_b, w1, nu_b]
    by_cases z : nI (tBest np ng N dy kd jy pr g i) ≤ s.2
    · rw [if_pos (by exact z), if_pos (by exact z), if_pos z]
    · rw [if_neg (by exact z), if_neg (by exact z), if_neg z]
      rfl
theorem ex_giveLoop (kc : Int32 → Int32 → Int32 → Int32 → Int32 → fm_M → Option (Int32 × fm_M)) {dy np ng g N : Nat} {kd jy : Nat → Nat} {pr : Nat → Nat → Nat} (ho : tOk dy np ng kd jy pr) (h9 : dy ≤ 9999) (hN : N ≤ 30) (hg : g < ng) : ∀ (m fuel i : Nat) (σ : fm_M) (s : Int32 × Int32), m < fuel → i + m = np → xTown σ 8 dy np ng kd jy pr → ∃ σ', m_X11_give_33 kc fuel (nI g) (nI N) s.1 s.2 (nI i) σ = kc (nI g) (nI N) (pick (tGivn np ng N dy kd jy pr g) m i s).1 (pick (tGivn np ng N dy kd jy pr g) m i s).2 (nI np) σ' ∧ fEq sX σ σ' := by
  have o1 := ho.1
  have o2 := ho.2.1
  intro m
  induction m with
  | zero =>
    intro fuel i σ s hf hi ht
    obtain ⟨n, rfl⟩ : ∃ n, fuel = n + 1 := ⟨fuel - 1, by omega⟩
    refine ⟨σ, ?_, fEq.rf⟩
    rw [m_X11_give_33, pick]
    simp only [nu_lit]
    rw [ht.2.1, if_pos (by rw [nu_le (by omega) (by omega)]; omega), show i = np by omega]
  | succ m ih =>
    intro fuel i σ s hf hi ht
    obtain ⟨n, rfl⟩ : ∃ n, fuel = n + 1 := ⟨fuel - 1, by omega⟩
    obtain ⟨σ1, u1, u2, u3⟩ := ex_startTrial ho ht
    have rk := ho.2.2.2.2 g hg
    have ok := ho.setP (g := g) (x := rSet (pr g) 2 i) (rSet_ok2 rk.1) (by simp [rSet]; omega)
    have p3' : fEq (sA (58 + 9 + 2 * g)) σ1 (fm_sI σ1 (58 + 9 + 2 * g) 3 (nI i)) := fEq.set (Or.inl rfl)
    have p2 := u2.setP ho ((u2.2.2.2.2 g hg).set (f := 2) (v := i) (by omega) (by omega)) p3'
    have p3 := p3'.mono (sA_X (by omega))
    obtain ⟨σ3, w1, w2, w3⟩ := ex_go58 (N := N) (by omega) ok (by omega) p2
    have jv := ex_joyOfAll (tDays_ok2 N ok (by omega)) w2
    have q3 := qX.tr (qX.tr u3 p3) w3
    obtain ⟨σ', y1, y2⟩ := ih n (i + 1) σ3 (if nI (tGivn np ng N dy kd jy pr g i) ≤ s.2 then s else (nI i, nI (tGivn np ng N dy kd jy pr g i))) (by omega) (by omega) (ht.q ho q3)
    refine ⟨σ', ?_, qX.tr q3 y2⟩
    rw [m_X11_give_33, pick, ← y1]
    simp only [nu_lit, nI_add]
    rw [ht.2.1, if_neg (by rw [nu_le (by omega) (by omega)]; omega), u1, nu_b, nu_in (by omega) (by decide), nu_g, nu_cl (by omega), nu_let, w1, nu_b, jv, nu_b]
    by_cases z : nI (tGivn np ng N dy kd jy pr g i) ≤ s.2
    · rw [if_pos (by exact z), if_pos z]
    · rw [if_neg (by exact z), if_neg z]
      rfl
theorem em_giveLoop (kc : Int32 → Int32 → Int32 → Int32 → Int32 → fm_M → Option (Int32 × fm_M)) {dy np ng g N : Nat} {kd jy : Nat → Nat} {pr : Nat → Nat → Nat} (ho : tOk dy np ng kd jy pr) (h9 : dy ≤ 9999) (hN : N ≤ 30) (hg : g < ng) : ∀ (m fuel i : Nat) (σ : fm_M) (s : Int32 × Int32), m < fuel → i + m = np → mTown σ 97 dy np ng kd jy pr → ∃ σ', m_X12_give_29 kc fuel (nI g) (nI N) s.1 s.2 (nI i) σ = kc (nI g) (nI N) (pick (tGivn np ng N dy kd jy pr g) m i s).1 (pick (tGivn np ng N dy kd jy pr g) m i s).2 (nI np) σ' ∧ fEq sM σ σ' := by
  have o1 := ho.1
  have o2 := ho.2.1
  intro m
  induction m with
  | zero =>
    intro fuel i σ s hf hi ht
    obtain ⟨n, rfl⟩ : ∃ n, fuel = n + 1 := ⟨fuel - 1, by omega⟩
    refine ⟨σ, ?_, fEq.rf⟩
    rw [m_X12_give_29, pick]
    simp only [nu_lit]
    rw [nu_in (by decide) (by decide), nu_g, nu_cl (n := 1) (by omega), ht.2.1, if_pos (by rw [nu_le (by omega) (by omega)]; omega), show i = np by omega]
  | succ m ih =>
    intro fuel i σ s hf hi ht
    obtain ⟨n, rfl⟩ : ∃ n, fuel = n + 1 := ⟨fuel - 1, by omega⟩
    obtain ⟨τ1, u1, u2, u3⟩ := em_start σ
    have t1 := ht.keep u3
    have rk := ho.2.2.2.2 g hg
    have ok := ho.setP (g := g) (x := rSet (pr g) 2 i) (rSet_ok2 rk.1) (by simp [rSet]; omega)
    have p3' : fEq (sP g) τ1 (fm_sI τ1 97 (16 + 10 * g + 2) (nI i)) := mP_set (by omega)
    have p2 := t1.setP ho (mRec.set (f := 2) (v := i) (t1.2.2.2.2 g hg) (by omega) (by omega)) p3'
    obtain ⟨σ3, w1, w3⟩ := em_joyAll (N := N) (by omega) ok (by omega) p2 (u2.go p3' sP_18)
    obtain ⟨σ', y1, y2⟩ := ih n (i + 1) σ3 (if nI (tGivn np ng N dy kd jy pr g i) ≤ s.2 then s else (nI i, nI (tGivn np ng N dy kd jy pr g i))) (by omega) (by omega) (ht.q ho w3)
    refine ⟨σ', ?_, qM.tr w3 y2⟩
    rw [m_X12_give_29, pick, ← y1]
    simp only [nu_lit, nI_add, nu_j]
    rw [nu_in (by decide) (by decide), nu_g, nu_cl (n := 1) (by omega), ht.2.1, if_neg (by rw [nu_le (by omega) (by omega)]; omega), u1, nu_b, em_lays1 _ (by omega), nu_b, w1, nu_b]
    by_cases z : nI (tGivn np ng N dy kd jy pr g i) ≤ s.2
    · rw [if_pos (by exact z), if_pos (by exact z), if_pos z]
    · rw [if_neg (by exact z), if_neg (by exact z), if_neg z]
      rfl
theorem ex_kindLoop (kc : Int32 → Int32 → Int32 → Int32 → Int32 → fm_M → Option (Int32 × fm_M)) {dy np ng g N : Nat} {kd jy : Nat → Nat} {pr : Nat → Nat → Nat} (ho : tOk dy np ng kd jy pr) (h9 : dy ≤ 9999) (hN : N ≤ 30) (hg : g < np) : ∀ (m fuel i : Nat) (σ : fm_M) (s : Int32 × Int32), m < fuel → i + m = 6 → xTown σ 8 dy np ng kd jy pr → ∃ σ', m_X11_kind_33 kc fuel (nI g) (nI N) s.1 s.2 (nI i) σ = kc (nI g) (nI N) (pick (tKind np ng N dy kd jy pr g) m i s).1 (pick (tKind np ng N dy kd jy pr g) m i s).2 (nI 6) σ' ∧ fEq sX σ σ' := by
  have o1 := ho.1
  have o2 := ho.2.1
  intro m
  induction m with
  | zero =>
    intro fuel i σ s hf hi ht
    obtain ⟨n, rfl⟩ : ∃ n, fuel = n + 1 := ⟨fuel - 1, by omega⟩
    refine ⟨σ, ?_, fEq.rf⟩
    rw [m_X11_kind_33, pick]
    simp only [nu_lit]
    rw [if_pos (by rw [nu_le (by omega) (by omega)]; omega), show i = 6 by omega]
  | succ m ih =>
    intro fuel i σ s hf hi ht
    obtain ⟨n, rfl⟩ : ∃ n, fuel = n + 1 := ⟨fuel - 1, by omega⟩
    obtain ⟨σ1, u1, u2, u3⟩ := ex_startTrial ho ht
    have ok := ho.setK (j := g) (v := i) (by omega)
    have p2 := u2.setK (v := i) ho hg
    have p3 : fEq sX σ1 (fm_sI σ1 (58 + 2 + g) 0 (nI i)) := fEq.set (Or.inl ⟨by omega, by omega⟩)
    obtain ⟨σ3, w1, w2, w3⟩ := ex_go58 (N := N) (by omega) ok (by omega) p2
    have jv := (w2.2.2.2.1 g hg).2
    have q3 := qX.tr (qX.tr u3 p3) w3
    obtain ⟨σ', y1, y2⟩ := ih n (i + 1) σ3 (if nI (tKind np ng N dy kd jy pr g i) ≤ s.2 then s else (nI i, nI (tKind np ng N dy kd jy pr g i))) (by omega) (by omega) (ht.q ho q3)
    refine ⟨σ', ?_, qX.tr q3 y2⟩
    rw [m_X11_kind_33, pick, ← y1]
    simp only [nu_lit, nI_add]
    rw [if_neg (by rw [nu_le (by omega) (by omega)]; omega), u1, nu_b, nu_in (by omega) (by decide), nu_g, nu_cl (by omega), nu_let, w1, nu_b, nu_g, jv]
    by_cases z : nI (tKind np ng N dy kd jy pr g i) ≤ s.2
    · rw [if_pos (by exact z), if_pos z]
    · rw [if_neg (by exact z), if_neg z]
      rfl
theorem em_kindLoop (kc : Int32 → Int32 → Int32 → Int32 → Int32 → fm_M → Option (Int32 × fm_M)) {dy np ng g N : Nat} {kd jy : Nat → Nat} {pr : Nat → Nat → Nat} (ho : tOk dy np ng kd jy pr) (h9 : dy ≤ 9999) (hN : N ≤ 30) (hg : g < np) : ∀ (m fuel i : Nat) (σ : fm_M) (s : Int32 × Int32), m < fuel → i + m = 6 → mTown σ 97 dy np ng kd jy pr → ∃ σ', m_X12_kind_29 kc fuel (nI g) (nI N) s.1 s.2 (nI i) σ = kc (nI g) (nI N) (pick (tKind np ng N dy kd jy pr g) m i s).1 (pick (tKind np ng N dy kd jy pr g) m i s).2 (nI 6) σ' ∧ fEq sM σ σ' := by
  have o1 := ho.1
  have o2 := ho.2.1
  intro m
  induction m with
  | zero =>
    intro fuel i σ s hf hi ht
    obtain ⟨n, rfl⟩ : ∃ n, fuel = n + 1 := ⟨fuel - 1, by omega⟩
    refine ⟨σ, ?_, fEq.rf⟩
    rw [m_X12_kind_29, pick]
    simp only [nu_lit]
    rw [if_pos (by rw [nu_le (by omega) (by omega)]; omega), show i = 6 by omega]
  | succ m ih =>
    intro fuel i σ s hf hi ht
    obtain ⟨n, rfl⟩ : ∃ n, fuel = n + 1 := ⟨fuel - 1, by omega⟩
    obtain ⟨τ1, u1, u2, u3⟩ := em_start σ
    have t1 := ht.keep u3
    have ok := ho.setK (j := g) (v := i) (by omega)
    have p3' : fEq (fun a k => a = 97) τ1 (fm_sI τ1 97 (4 + 2 * g) (nI i)) := fEq.set rfl
    have p2 := t1.setK (v := i) ho hg
    obtain ⟨σ3, w1, w3⟩ := em_joyOne (N := N) (by omega) ok (by omega) p2 hg (u2.go p3' (fun a k z => Or.inl z))
    obtain ⟨σ', y1, y2⟩ := ih n (i + 1) σ3 (if nI (tKind np ng N dy kd jy pr g i) ≤ s.2 then s else (nI i, nI (tKind np ng N dy kd jy pr g i))) (by omega) (by omega) (ht.q ho w3)
    refine ⟨σ', ?_, qM.tr w3 y2⟩
    rw [m_X12_kind_29, pick, ← y1]
    simp only [nu_lit, nI_add, nu_j]
    rw [if_neg (by rw [nu_le (by omega) (by omega)]; omega), u1, nu_b, em_puts _ (by omega), show 4 + 2 * g + 0 = 4 + 2 * g from rfl, nu_b, w1, nu_b]
    by_cases z : nI (tKind np ng N dy kd jy pr g i) ≤ s.2
    · rw [if_pos (by exact z), if_pos (by exact z), if_pos z]
    · rw [if_neg (by exact z), if_neg (by exact z), if_neg z]
      rfl
theorem op_give (x v : Int32) {σ : fm_M} (h : Inv σ) : opS (m_X11_give x v) (m_X12_give x v) σ := by
  obtain ⟨hR, dy, np, ng, kd, jy, pr, k1, k2, k3, k4⟩ := id h
  have o1 := k1.1
  have o2 := k1.2.1
  rcases nu_ix x (n := ng) (by omega) with ⟨jx, hx, rfl⟩ | hx
  · rcases nu_ix1 v (n := 30) (by decide) with ⟨jv, gv, hv, rfl⟩ | hv
    · obtain ⟨σ1, a1, a2⟩ := ex_giveLoop (fun (x1_y25) (x2_y25) (x3_y25) (x4_y25) (x5_y25) (σ_y25) => some (x3_y25, σ_y25)) k1 k2 (N := jv) (by omega) hx np fm_fu 0 σ (nI 0, -nI 1) (by have := nu_fu; omega) (by omega) k3
      have m1 := k4.qX a2
      obtain ⟨σ2, b1, b2⟩ := em_giveLoop (fun (x1_y25) (x2_y25) (x3_y25) (x4_y25) (x5_y25) (σ_y25) => some (x3_y25, σ_y25)) k1 k2 (N := jv) (by omega) hx np fm_fu 0 σ1 (nI 0, -nI 1) (by have := nu_fu; omega) (by omega) m1
      refine stp_q (pick (tGivn np ng jv dy kd jy pr jx) np 0 (nI 0, -nI 1)).1 h ?_ a2 ?_ b2
      · unfold m_X11_give
        simp only [nu_lit]
        rw [ex_isPresentT k3.2.2.1 o2 hx, nu_b, if_neg nI10, ex_wT (by omega) (by omega) (by decide), nu_b, if_neg nI10]
        exact a1
      · unfold m_X12_give
        simp only [nu_lit]
        rw [em_isPresentT m1.2.2.1 o2 hx, nu_b, if_neg nI10, em_isSoonT gv hv, nu_b, if_neg nI10]
        exact b1
    · refine stp_find 0 (by decide) h ?_ (fun σ1 hs => ?_)
      · unfold m_X11_give
        simp only [nu_lit, fnd0]
        rw [ex_isPresentT k3.2.2.1 o2 hx, nu_b, if_neg nI10, em_within, if_neg hv, nu_b, if_pos rfl]
      · have m1 := k4.keep (fun k => hs 97 k (by omega))
        unfold m_X12_give
        simp only [nu_lit]
        rw [em_isPresentT m1.2.2.1 o2 hx, nu_b, if_neg nI10, em_isSoonF hv, nu_b, if_pos rfl]
  · refine stp_find 0 (by decide) h ?_ (fun σ1 hs => ?_)
    · unfold m_X11_give
      simp only [nu_lit, fnd0]
      rw [ex_isPresentF k3.2.2.1 o2 hx, nu_b, if_pos rfl]
    · have m1 := k4.keep (fun k => hs 97 k (by omega))
      unfold m_X12_give
      simp only [nu_lit]
      rw [em_isPresentF m1.2.2.1 o2 hx, nu_b, if_pos rfl]
theorem op_kind (x v : Int32) {σ : fm_M} (h : Inv σ) : opS (m_X11_kind x v) (m_X12_kind x v) σ := by
  obtain ⟨hR, dy, np, ng, kd, jy, pr, k1, k2, k3, k4⟩ := id h
  have o1 := k1.1
  have o2 := k1.2.1
  rcases nu_ix x (n := np) (by omega) with ⟨jx, hx, rfl⟩ | hx
  · rcases nu_ix1 v (n := 30) (by decide) with ⟨jv, gv, hv, rfl⟩ | hv
    · obtain ⟨σ1, a1, a2⟩ := ex_kindLoop (fun (x1_y25) (x2_y25) (x3_y25) (x4_y25) (x5_y25) (σ_y25) => some (x3_y25, σ_y25)) k1 k2 (N := jv) (by omega) hx 6 fm_fu 0 σ (nI 0, -nI 1) (by have := nu_fu; omega) (by omega) k3
      have m1 := k4.qX a2
      obtain ⟨σ2, b1, b2⟩ := em_kindLoop (fun (x1_y25) (x2_y25) (x3_y25) (x4_y25) (x5_y25) (σ_y25) => some (x3_y25, σ_y25)) k1 k2 (N := jv) (by omega) hx 6 fm_fu 0 σ1 (nI 0, -nI 1) (by have := nu_fu; omega) (by omega) m1
      refine stp_q (pick (tKind np ng jv dy kd jy pr jx) 6 0 (nI 0, -nI 1)).1 h ?_ a2 ?_ b2
      · unfold m_X11_kind
        simp only [nu_lit]
        rw [ex_isPersonT k3.2.1 o1 hx, nu_b, if_neg nI10, ex_wT (by omega) (by omega) (by decide), nu_b, if_neg nI10]
        exact a1
      · unfold m_X12_kind
        simp only [nu_lit]
        rw [em_isPersonT m1.2.1 o1 hx, nu_b, if_neg nI10, em_isSoonT gv hv, nu_b, if_neg nI10]
        exact b1
    · refine stp_find 0 (by decide) h ?_ (fun σ1 hs => ?_)
      · unfold m_X11_kind
        simp only [nu_lit, fnd0]
        rw [ex_isPersonT k3.2.1 o1 hx, nu_b, if_neg nI10, em_within, if_neg hv, nu_b, if_pos rfl]
      · have m1 := k4.keep (fun k => hs 97 k (by omega))
        unfold m_X12_kind
        simp only [nu_lit]
        rw [em_isPersonT m1.2.1 o1 hx, nu_b, if_neg nI10, em_isSoonF hv, nu_b, if_pos rfl]
  · refine stp_find 0 (by decide) h ?_ (fun σ1 hs => ?_)
    · unfold m_X11_kind
      simp only [nu_lit, fnd0]
      rw [ex_isPersonF k3.2.1 o1 hx, nu_b, if_pos rfl]
    · have m1 := k4.keep (fun k => hs 97 k (by omega))
      unfold m_X12_kind
      simp only [nu_lit]
      rw [em_isPersonF m1.2.1 o1 hx, nu_b, if_pos rfl]
theorem op_best (x v : Int32) {σ : fm_M} (h : Inv σ) : opS (m_X11_best x v) (m_X12_best x v) σ := by
  obtain ⟨hR, dy, np, ng, kd, jy, pr, k1, k2, k3, k4⟩ := id h
  have o1 := k1.1
  have o2 := k1.2.1
  rcases nu_ix x (n := ng) (by omega) with ⟨jx, hx, rfl⟩ | hx
  · rcases nu_ix1 v (n := 30) (by decide) with ⟨jv, gv, hv, rfl⟩ | hv
    · obtain ⟨hr, hr2⟩ := k1.2.2.2.2 jx hx
      have h0 := hr.1
      have h3 := hr.2.2.1
      have xj := k3.2.2.2.2 jx hx
      have e0 : σ.1 (8 + 9 + 2 * jx) 1 = nI (pr jx 0) := xj.n
      have e3 : σ.1 (8 + 9 + 2 * jx) 4 = nI (pr jx 3) := xj.1 3 (by omega)
      by_cases z6 : pr jx 0 = 6
      · refine stp_find 1 (by decide) h ?_ (fun σ1 hs => ?_)
        · unfold m_X11_best
          simp only [nu_lit, fnd1]
          rw [ex_isPresentT k3.2.2.1 o2 hx, nu_b, if_neg nI10, ex_wT (by omega) (by omega) (by decide), nu_b, if_neg nI10, nu_in (by omega) (by decide), nu_g, nu_cl (by omega), e0, if_neg (by rw [nu_lt (by omega) (by decide)]; omega)]
        · have m1 := k4.keep (fun k => hs 97 k (by omega))
          unfold m_X12_best
          simp only [nu_lit, nu_j]
          rw [em_isPresentT m1.2.2.1 o2 hx, nu_b, if_neg nI10, em_isSoonT gv hv, nu_b, if_neg nI10, em_why (by omega) (m1.2.2.2.2 jx hx) hr, nu_b, if_pos z6, if_neg (by decide)]
      · by_cases z3 : pr jx 3 = 1
        · refine stp_find 4 (by decide) h ?_ (fun σ1 hs => ?_)
          · unfold m_X11_best
            simp only [nu_lit, fnd4]
            rw [ex_isPresentT k3.2.2.1 o2 hx, nu_b, if_neg nI10, ex_wT (by omega) (by omega) (by decide), nu_b, if_neg nI10, nu_in (by omega) (by decide), nu_g, nu_cl (by omega), e0, if_pos (by rw [nu_lt (by omega) (by decide)]; omega), nu_g, e3, z3, if_neg nI10]
          · have m1 := k4.keep (fun k => hs 97 k (by omega))
            unfold m_X12_best
            simp only [nu_lit, nu_j]
            rw [em_isPresentT m1.2.2.1 o2 hx, nu_b, if_neg nI10, em_isSoonT gv hv, nu_b, if_neg nI10, em_why (by omega) (m1.2.2.2.2 jx hx) hr, nu_b, if_neg z6, if_pos z3, if_neg (by decide)]
        · obtain ⟨σ1, a1, a2⟩ := ex_bestLoop (fun (x1_y25) (x2_y25) (x3_y25) (x4_y25) (x5_y25) (σ_y25) => some (x3_y25, σ_y25)) k1 k2 (N := jv) (by omega) hx (by omega) 4 fm_fu 0 σ (nI 0, -nI 1) (by have := nu_fu; omega) (by omega) k3
          have m1 := k4.qX a2
          obtain ⟨σ2, b1, b2⟩ := em_bestLoop (fun (x1_y25) (x2_y25) (x3_y25) (x4_y25) (x5_y25) (σ_y25) => some (x3_y25, σ_y25)) k1 k2 (N := jv) (by omega) hx (by omega) 4 fm_fu 0 σ1 (nI 0, -nI 1) (by have := nu_fu; omega) (by omega) m1
          refine stp_q (pick (tBest np ng jv dy kd jy pr jx) 4 0 (nI 0, -nI 1)).1 h ?_ a2 ?_ b2
          · unfold m_X11_best
            simp only [nu_lit]
            rw [ex_isPresentT k3.2.2.1 o2 hx, nu_b, if_neg nI10, ex_wT (by omega) (by omega) (by decide), nu_b, if_neg nI10, nu_in (by omega) (by decide), nu_g, nu_cl (by omega), e0, if_pos (by rw [nu_lt (by omega) (by decide)]; omega), nu_g, e3, show pr jx 3 = 0 by omega, if_pos rfl]
            exact a1
          · unfold m_X12_best
            simp only [nu_lit, nu_j]
            rw [em_isPresentT m1.2.2.1 o2 hx, nu_b, if_neg nI10, em_isSoonT gv hv, nu_b, if_neg nI10, em_why (by omega) (m1.2.2.2.2 jx hx) hr, nu_b, if_neg z6, if_neg z3, if_pos (by decide)]
            exact b1
    · refine stp_find 0 (by decide) h ?_ (fun σ1 hs => ?_)
      · unfold m_X11_best
        simp only [nu_lit, fnd0]
        rw [ex_isPresentT k3.2.2.1 o2 hx, nu_b, if_neg nI10, em_within, if_neg hv, nu_b, if_pos rfl]
      · have m1 := k4.keep (fun k => hs 97 k (by omega))
        unfold m_X12_best
        simp only [nu_lit, nu_j]
        rw [em_isPresentT m1.2.2.1 o2 hx, nu_b, if_neg nI10, em_isSoonF hv, nu_b, if_pos rfl, if_neg (by decide)]
  · refine stp_find 0 (by decide) h ?_ (fun σ1 hs => ?_)
    · unfold m_X11_best
      simp only [nu_lit, fnd0]
      rw [ex_isPresentF k3.2.2.1 o2 hx, nu_b, if_pos rfl]
    · have m1 := k4.keep (fun k => hs 97 k (by omega))
      unfold m_X12_best
      simp only [nu_lit, nu_j]
      rw [em_isPresentF m1.2.2.1 o2 hx, nu_b, if_pos rfl, if_neg (by decide)]
