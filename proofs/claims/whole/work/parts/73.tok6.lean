/-! reading a town -/
theorem loop_both {bt : Nat → Nat} {n dy : Nat} (hb : btOk bt n) : ∀ (m z s e t v fx fm np ng : Nat) (kd jy : Nat → Nat) (pr : Nat → Nat → Nat) (σX σM : fm_M), n < s + m → m < fx → m < fm → 1 ≤ z → 2 * z ≤ s + 2 → tOk dy np ng kd jy pr → xTown σX 58 dy np ng kd jy pr → mTown σM 97 dy np ng kd jy pr → tkX σX bt n s e t v → tkM σM bt n s e t v → tkO n s e t v →
    ∃ (σX' σM' : fm_M), fEq sX σX σX' ∧ fE2 sFM σM σM' ∧ ((∃ (z' np' ng' : Nat) (kd' jy' : Nat → Nat) (pr' : Nat → Nat → Nat), 1 ≤ z' ∧ z' ≤ 61 ∧ (∀ kc : Nat → Int32 → fm_M → Option (Int32 × fm_M), m_X9_readTown_11 kc fx 58 (nI z) σX = some (nI z', σX')) ∧ (∀ kc : Int32 → Int32 → fm_M → Option (Int32 × fm_M), (fm_b (m_X12_readsItem σM) fun r σ => m_X12_town_20 kc fm (nI z) r σ) = kc (nI z') (nI 1) σM') ∧ σM'.1 96 9 = nI 0 ∧ tOk dy np' ng' kd' jy' pr' ∧ xTown σX' 58 dy np' ng' kd' jy' pr' ∧ mTown σM' 97 dy np' ng' kd' jy' pr')
      ∨ (∃ (z' zM rM : Int32) (s' : Nat), s' ≤ 120 ∧ (∀ kc : Nat → Int32 → fm_M → Option (Int32 × fm_M), m_X9_readTown_11 kc fx 58 (nI z) σX = kc 58 z' σX') ∧ (∀ kc : Int32 → Int32 → fm_M → Option (Int32 × fm_M), (fm_b (m_X12_readsItem σM) fun r σ => m_X12_town_20 kc fm (nI z) r σ) = kc zM rM σM') ∧ (rM = nI 0 ∨ (rM = nI 1 ∧ ¬ σM'.1 96 9 = nI 0)) ∧ σX'.1 92 2 = nI s' ∧ σM'.1 96 10 = nI s')) := by
  intro m
  have hn := hb.1
  induction m with
  | zero =>
    intro z s e t v fx fm np ng kd jy pr σX σM h1 h2 h3 h4 h5 ho hx hm tX tM tO
    have := tO.1
    have := tO.2.1
    omega
  | succ m ih =>
    intro z s e t v fx fm np ng kd jy pr σX σM h1 h2 h3 h4 h5 ho hx hm tX tM tO
    obtain ⟨f1, rfl⟩ : ∃ f, fx = f + 1 := ⟨fx - 1, by omega⟩
    obtain ⟨f2, rfl⟩ : ∃ f, fm = f + 1 := ⟨fm - 1, by omega⟩
    obtain ⟨p1, p2, p3, p4, p5⟩ := id tO
    obtain ⟨rX, rM, σX1, σM1, a1, a2, a3, a4, a5, a6⟩ := item_both hb ho hx hm tX tM tO
    rcases a3 with ⟨rfl, rfl, s1, e1, t1, v1, np1, ng1, kd1, jy1, pr1, c1, c2, c3, c4, c5, c6, c7⟩ | ⟨rfl, s1, c1, c2, c3, c4⟩
    · have t14 := a6 rfl
      have lt := p3 t14
      obtain ⟨q1, q2, q3, q4, q5⟩ := id c3
      have k14 := tkC14 c2.2.2.2.2
      have k12 := tkC12 c2.2.2.2.2
      by_cases y : t1 = 14
      · subst y
        refine ⟨σX1, σM1, a4, a5, Or.inl ⟨z, np1, ng1, kd1, jy1, pr1, h4, by omega, fun kc => ?_, fun kc => ?_, k14.mpr rfl, c5, c6, c7⟩⟩
        · rw [m_X9_readTown_11]
          simp only [nu_lit]
          rw [if_neg (by rw [nu_lt (by omega) (by omega)]; omega), a1, nu_b, if_neg nI10, c1.2.2.2.1, if_pos rfl]
        · rw [a2, nu_b, m_X12_town_20]
          simp only [nu_lit]
          rw [if_neg nI10, if_neg (fun q => absurd (k12.mp q) (by decide))]
      · by_cases y2 : t1 = 12
        · subst y2
          have lt1 := q3 (by decide)
          obtain ⟨s2, e2, t2, v2, ρX, ρM, d1, d2, d3, d4, d5, d6, d7, d8⟩ := step_both hb q2 c1.1 c1.2.2.1 c2.1 c2.2.1 c2.2.2.2.1
          obtain ⟨σX', σM', g1, g2, g3⟩ := ih (z + 1) s2 e2 t2 v2 f1 f2 np1 ng1 kd1 jy1 pr1 ρX ρM (by omega) (by omega) (by omega) (by omega) (by omega) c5 (c6.tk c5 d7) (c7.tk d8) d3 d4 d5
          have eX : ∀ kc : Nat → Int32 → fm_M → Option (Int32 × fm_M), m_X9_readTown_11 kc (f1 + 1) 58 (nI z) σX = m_X9_readTown_11 kc f1 58 (nI (z + 1)) ρX := by
            intro kc
            rw [m_X9_readTown_11]
            simp only [nu_lit]
            rw [if_neg (by rw [nu_lt (by omega) (by omega)]; omega), a1, nu_b, if_neg nI10, c1.2.2.2.1, if_neg (by decide), if_pos rfl, d1, nu_b, nI_add]
          have eM : ∀ kc : Int32 → Int32 → fm_M → Option (Int32 × fm_M), (fm_b (m_X12_readsItem σM) fun r σ => m_X12_town_20 kc (f2 + 1) (nI z) r σ) = (fm_b (m_X12_readsItem ρM) fun r σ => m_X12_town_20 kc f2 (nI (z + 1)) r σ) := by
            intro kc
            rw [a2, nu_b, m_X12_town_20]
            simp only [nu_lit]
            rw [if_neg nI10, if_pos (k12.mpr rfl), d2, nu_b, nI_add]
          have i : ∀ a k, sFM a k → sFM a k := fun _ _ y => y
          refine ⟨σX', σM', qX.tr (qX.tr a4 (d7.mono sTX_X)) g1, ((a5.tr d8 i sTM_F : fE2 sFM σM ρM).tr g2 i i), ?_⟩
          rcases g3 with ⟨z', np', ng', kd', jy', pr', i1, i2, i3, i4, i5⟩ | ⟨z', zM, rM, s', i1, i2, i3, i4⟩
          · exact Or.inl ⟨z', np', ng', kd', jy', pr', i1, i2, fun kc => (eX kc).trans (i3 kc), fun kc => (eM kc).trans (i4 kc), i5⟩
          · exact Or.inr ⟨z', zM, rM, s', i1, fun kc => (eX kc).trans (i2 kc), fun kc => (eM kc).trans (i3 kc), i4⟩
        · refine ⟨σX1, σM1, a4, a5, Or.inr ⟨nI z, nI z, nI 1, s1, by omega, fun kc => ?_, fun kc => ?_, Or.inr ⟨rfl, fun q => y (k14.mp q)⟩, c1.2.1, c2.2.2.1⟩⟩
          · rw [m_X9_readTown_11]
            simp only [nu_lit]
            rw [if_neg (by rw [nu_lt (by omega) (by omega)]; omega), a1, nu_b, if_neg nI10, c1.2.2.2.1, if_neg (by rw [nu_eq (by omega) (by omega)]; exact y), if_neg (by rw [nu_eq (by omega) (by omega)]; exact y2)]
          · rw [a2, nu_b, m_X12_town_20]
            simp only [nu_lit]
            rw [if_neg nI10, if_neg (fun q => y2 (k12.mp q))]
    · refine ⟨σX1, σM1, a4, a5, Or.inr ⟨nI z, nI z, nI 0, s1, c1, fun kc => ?_, fun kc => ?_, Or.inl rfl, c2, c3⟩⟩
      · rw [m_X9_readTown_11]
        simp only [nu_lit]
        rw [if_neg (by rw [nu_lt (by omega) (by omega)]; omega), a1, nu_b]
        rcases c4 with rfl | ⟨rfl, t', u1, u2, u3⟩
        · rw [if_pos rfl]
        · rw [if_neg nI10, u3, if_neg (by rw [nu_eq (by omega) (by omega)]; omega), if_neg (by rw [nu_eq (by omega) (by omega)]; omega)]
      · rw [a2, nu_b, m_X12_town_20]
        simp only [nu_lit]
        rw [if_pos trivial]
/-- the reading of a town, on both sides -/
theorem town_sim {bt : Nat → Nat} {n dy np ng : Nat} {kd jy : Nat → Nat} {pr : Nat → Nat → Nat} {σX σM : fm_M} (hb : btOk bt n) (ho : tOk dy np ng kd jy pr) (hx : xTown σX 58 dy np ng kd jy pr) (hm : mTown σM 97 dy np ng kd jy pr) (tX : tpX σX bt n) (tM : tpM σM bt n) (hC : iC σM) :
    ∃ (σX' σM' : fm_M), fEq sX σX σX' ∧ fE2 sFM σM σM' ∧ ((∃ (z' np' ng' : Nat) (kd' jy' : Nat → Nat) (pr' : Nat → Nat → Nat), 1 ≤ z' ∧ z' ≤ 61 ∧ m_X9_readTown 58 σX = some (nI z', σX') ∧ (∀ kc : Int32 → Int32 → fm_M → Option (Int32 × fm_M), (fm_b (m_X12_nextToken (fm_sI σM 96 11 (nI 0))) fun _ σ7 => (fm_b (m_X12_readsItem σ7) fun r9 σ10 => m_X12_town_20 kc fm_fu (nI 1) r9 σ10)) = kc (nI z') (nI 1) σM') ∧ σM'.1 96 9 = nI 0 ∧ tOk dy np' ng' kd' jy' pr' ∧ xTown σX' 58 dy np' ng' kd' jy' pr' ∧ mTown σM' 97 dy np' ng' kd' jy' pr')
      ∨ (∃ (zM rM : Int32) (s' : Nat), s' ≤ 120 ∧ m_X9_readTown 58 σX = some (-nI 1 - nI s', σX') ∧ (∀ kc : Int32 → Int32 → fm_M → Option (Int32 × fm_M), (fm_b (m_X12_nextToken (fm_sI σM 96 11 (nI 0))) fun _ σ7 => (fm_b (m_X12_readsItem σ7) fun r9 σ10 => m_X12_town_20 kc fm_fu (nI 1) r9 σ10)) = kc zM rM σM') ∧ (rM = nI 0 ∨ (rM = nI 1 ∧ ¬ σM'.1 96 9 = nI 0)) ∧ σM'.1 96 10 = nI s')) := by
  have hn := hb.1
  have fX0 : fEq sTX σX (fm_sI σX 92 3 (nI 0)) := fEq.set ⟨rfl, by omega⟩
  have fM0 : fE2 sTM σM (fm_sI σM 96 11 (nI 0)) := fE2.of (fEq.set ⟨rfl, by omega⟩)
  obtain ⟨s1, e1, t1, v1, ρX, ρM, b1, b2, b3, b4, b5, b6, b7, b8⟩ := step_both (e := 0) (σX := fm_sI σX 92 3 (nI 0)) (σM := fm_sI σM 96 11 (nI 0)) hb (by omega) (tX.keep (by rw [nu_sI, if_neg (by omega)]) (fun k => by rw [nu_sI, if_neg (by omega)])) (by rw [nu_sI, if_pos ⟨rfl, rfl⟩]) (tM.keep (by rw [nu_sI, if_neg (by omega)]) (fun k => by rw [nu_sI, if_neg (by omega)])) (hC.keep (fun a k i1 i2 => by rw [nu_sI, if_neg (by omega)])) (by rw [nu_sI, if_pos ⟨rfl, rfl⟩])
  obtain ⟨σX', σM', g1, g2, g3⟩ := loop_both hb (n + 1) 1 s1 e1 t1 v1 fm_fu fm_fu np ng kd jy pr ρX ρM (by omega) (by have := nu_fu; omega) (by have := nu_fu; omega) (by omega) (by omega) ho ((hx.tk ho fX0).tk ho b7) ((hm.tk fM0).tk b8) b3 b4 b5
  have i : ∀ a k, sFM a k → sFM a k := fun _ _ y => y
  have eX : m_X9_readTown 58 σX = m_X9_readTown_11 (fun (x1_y12 : Nat) (x2_y12 : Int32) (σ_y12 : fm_M) => some ((-nI 1 - (σ_y12.1 92 2)), σ_y12)) fm_fu 58 (nI 1) ρX := by
    unfold m_X9_readTown
    simp only [nu_lit]
    rw [nu_let, b1, nu_b]
  refine ⟨σX', σM', qX.tr (qX.tr (fX0.mono sTX_X) (b7.mono sTX_X)) g1, (((fM0.mono sTM_F : fE2 sFM σM (fm_sI σM 96 11 (nI 0))).tr b8 i sTM_F : fE2 sFM σM ρM).tr g2 i i), ?_⟩
  rcases g3 with ⟨z', np', ng', kd', jy', pr', i1, i2, i3, i4, i5⟩ | ⟨z', zM, rM, s', i1, i2, i3, i4, i5, i6⟩
  · exact Or.inl ⟨z', np', ng', kd', jy', pr', i1, i2, by rw [eX, i3], fun kc => by rw [b2, nu_b, i4], i5⟩
  · exact Or.inr ⟨zM, rM, s', i1, by rw [eX, i2, i5], fun kc => by rw [b2, nu_b, i3], i4, i6⟩
-- what a town told in a text leaves as it was
def sTW : Nat → Nat → Prop := fun a k => (8 ≤ a ∧ a < 33) ∨ (58 ≤ a ∧ a < 83) ∨ a = 92 ∨ a = 95 ∨ (a = 96 ∧ 8 ≤ k) ∨ a = 97 ∨ a = 99
theorem inv_town {σ σ2 : fm_M} {dy np ng : Nat} {kd jy : Nat → Nat} {pr : Nat → Nat → Nat} (h : iR σ) (e : ∀ a k, ¬ sTW a k → σ2.1 a k = σ.1 a k) (e2 : ∀ a k, ¬ a = 96 → σ2.2 a k = σ.2 a k) (h1 : σ2.1 92 1 = nI 0) (h8 : σ2.1 96 8 = nI 0) (k1 : tOk dy np ng kd jy pr) (k2 : dy ≤ 9999) (k3 : xTown σ2 8 dy np ng kd jy pr) (k4 : mTown σ2 97 dy np ng kd jy pr) : Inv σ2 := by
  obtain ⟨g1, g2, g3, g4, g5⟩ := h
  refine ⟨⟨g1.keep (fun k => e _ _ (by unfold sTW; omega)) (fun a k i1 i2 => e _ _ (by unfold sTW; omega)) (e _ _ (by unfold sTW; omega)) (fun k => e _ _ (by unfold sTW; omega)), ⟨0, by omega, h1, h8, fun i hi => by omega⟩, fun s hs => ?_, fun k hk => ?_, g5.keep (fun a k i1 i2 => e _ _ (by unfold sTW; omega))⟩, dy, np, ng, kd, jy, pr, k1, k2, k3, k4⟩
  · obtain ⟨a1, a2, n, a3, a4, a5, a6, a7⟩ := g3 s hs
    rw [e 106 _ (by unfold sTW; omega), e (84 + 2 * s) _ (by unfold sTW; omega), e (84 + 2 * s) _ (by unfold sTW; omega), e 107 _ (by unfold sTW; omega)]
    exact ⟨a1, a2, n, a3, a4, a5, a6, fun i hi => by rw [e2 _ _ (by omega), e2 _ _ (by omega)]; exact a7 i hi⟩
  · rw [e _ _ (by unfold sTW; omega), e _ _ (by unfold sTW; omega)]; exact g4 k hk
theorem neg_s : ∀ s, s < 121 → -nI 1 - nI s < nI 0 := by decide +kernel
