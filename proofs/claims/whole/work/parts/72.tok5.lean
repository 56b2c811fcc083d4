/-! reading an item -/
theorem sTX_X : ∀ a k, sTX a k → sX a k := fun a k y => Or.inr (Or.inr y)
theorem sTM_F : ∀ a k, sTM a k → sFM a k := fun a k y => Or.inr y
theorem tkX58 {σ σ' : fm_M} {bt : Nat → Nat} {n s e t v : Nat} (h : tkX σ bt n s e t v) (hf : fEq (sB 58) σ σ') : tkX σ' bt n s e t v := h.keep (fun a k i => hf.1 _ _ (fun y => by have := y.2; omega))
theorem tkM97 {σ σ' : fm_M} {bt : Nat → Nat} {n s e t v : Nat} (h : tkM σ bt n s e t v) (hf : fEq (fun a _ => a = 97) σ σ') : tkM σ' bt n s e t v := h.keep (fun a k i => hf.1 _ _ (by omega)) hf.2
theorem xTown.tk {σ σ' : fm_M} {dy np ng : Nat} {kd jy : Nat → Nat} {pr : Nat → Nat → Nat} (h : xTown σ 58 dy np ng kd jy pr) (ho : tOk dy np ng kd jy pr) (hf : fEq sTX σ σ') : xTown σ' 58 dy np ng kd jy pr := h.keep ho (fun a k i1 i2 => hf.1 _ _ (by unfold sTX; omega))
theorem mTown.tk {σ σ' : fm_M} {dy np ng : Nat} {kd jy : Nat → Nat} {pr : Nat → Nat → Nat} (h : mTown σ 97 dy np ng kd jy pr) (hf : fE2 sTM σ σ') : mTown σ' 97 dy np ng kd jy pr := h.keep (fun k => hf.1 _ _ (by unfold sTM; omega))
theorem present_both {bt : Nat → Nat} {n e0 s e t v dy np ng : Nat} {kd jy : Nat → Nat} {pr : Nat → Nat → Nat} {σX σ0 σM : fm_M} (hb : btOk bt n) (hng : ng < 8) (ho : tOk dy np ng kd jy pr) (hx : xTown σX 58 dy np ng kd jy pr) (hm : mTown σM 97 dy np ng kd jy pr) (h0 : σ0.1 97 2 = nI ng) (hn0 : m_X12_nextToken σ0 = some ((), σM)) (tX : tkX σX bt n s e t v) (tM : tkM σM bt n s e t v) (tO : tkO n s e t v) (he : e0 ≤ s) :
    ∃ (rX rM : Int32) (σX' σM' : fm_M), m_X9_readPresent 58 σX = some (rX, σX') ∧ m_X12_readsPresent σ0 = some (rM, σM') ∧ itR bt n e0 dy rX rM σX' σM' ∧ fEq sX σX σX' ∧ fE2 sFM σM σM' ∧ fm_bz rX = true := by
  have hn := hb.1
  obtain ⟨o1, o2, -⟩ := id ho
  obtain ⟨p1, p2, p3, p4, p5⟩ := id tO
  by_cases z : t = 13 ∧ v < np
  · obtain ⟨rfl, hv⟩ := z
    obtain ⟨s1, e1, t1, v1, ρX, ρM, b1, b2, b3, b4, b5, b6, b7, b8⟩ := step_both hb p2 tX.1 tX.2.2.1 tM.1 tM.2.1 tM.2.2.2.1
    have hx1 := hx.tk ho b7
    have hm1 := hm.tk b8
    obtain ⟨μ1, c1, c2, c3⟩ := em_addsPresent (w := v) (t := 0) ho hm1 hng
    have tM1 := tkM97 b4 c3
    have okN := ho.addP (x := rNew v 0) hng (rNew_ok (by omega)) (by simpa [rNew] using hv)
    by_cases y : t1 = 11
    · subst y
      have w11 : m_X12_wordOf 104 μ1 = some (nI 1, μ1) := by rw [em_w104 tM1.2.1 tM1.2.2.2.2, if_neg (by decide), if_pos rfl]
      obtain ⟨s2, e2, t2, v2, ρX2, μ2, d1, d2, d3, d4, d5, d6, d7, d8⟩ := step_both hb b5.2.1 b3.1 b3.2.2.1 tM1.1 tM1.2.1 tM1.2.2.2.1
      by_cases y2 : t2 = 13 ∧ v2 < 100
      · obtain ⟨rfl, hv2⟩ := y2
        obtain ⟨s3, e3, t3, v3, ρX3, μ3, f1, f2, f3, f4, f5, f6, f7, f8⟩ := step_both hb d5.2.1 d3.1 d3.2.2.1 d4.1 d4.2.1 d4.2.2.2.1
        have hx3 := (hx1.tk ho d7).tk ho f7
        have hm3 := (c2.tk d8).tk f8
        have mr : mRec μ3 97 ng (rNew v 0) := by
          have q := hm3.2.2.2.2 ng (by omega)
          dsimp only at q
          rwa [if_pos rfl] at q
        have er : rSet (rNew v 0) 1 v2 = rNew v v2 := by
          funext k
          unfold rSet rNew
          by_cases q : k = 1
          · rw [if_pos q, if_pos q]
          · rw [if_neg q, if_neg q, if_neg q]
        have mr4 := mRec.set (f := 1) (v := v2) mr (by omega) (by omega)
        rw [er] at mr4
        have hm4 := hm3.setP2 okN mr4 (fun k i => by rw [nu_sI, if_neg (by omega)])
        have ef : (fun i => if i = ng then rNew v v2 else (if i = ng then rNew v 0 else pr i)) = (fun i => if i = ng then rNew v v2 else pr i) := by
          funext i
          by_cases q : i = ng
          · rw [if_pos q, if_pos q]
          · rw [if_neg q, if_neg q, if_neg q]
        rw [ef] at hm4
        have tM4 : tkM (fm_sI μ3 97 (16 + 10 * ng + 1) (nI v2)) bt n s3 e3 t3 v3 := f4.keep (fun a k i => by rw [nu_sI, if_neg (by omega)]) rfl
        obtain ⟨rM, σX', σM', g1, g2, g3, g4, g5⟩ := tail_both (e0 := e0) hb hng hv (show v2 ≤ 99 by omega) ho hx3 hm4 f3 tM4 f5 (by have := b5.1; have := d5.1; omega)
        refine ⟨nI 1, rM, σX', σM', ?_, ?_, g3, ?_, ?_, nu_bz1⟩
        · unfold m_X9_readPresent
          simp only [nu_lit]
          rw [tX.2.2.2.1, if_pos rfl, tX.2.2.2.2 rfl, hx.2.1, if_pos (by rw [nu_lt (by omega) (by omega)]; exact hv), b1, nu_b, b3.2.2.2.1, if_pos rfl, d1, nu_b, d3.2.2.2.1, if_pos rfl, d3.2.2.2.2 rfl, if_pos (by rw [nu_le (by omega) (by omega)]; omega), f1, nu_b]
          exact g1
        · unfold m_X12_readsPresent
          simp only [nu_lit]
          rw [nu_in (by decide) (by decide), nu_g, nu_cl (n := 2) (by omega), h0, if_neg (by rw [nu_eq (by omega) (by decide)]; omega), hn0, nu_b, nu_in (by decide) (by decide), nu_g, nu_cl (n := 1) (by omega), hm.2.1, em_takesT tM (by omega) hv, b2, nu_b, nu_b, if_pos (by rw [nu_le (by decide) (by omega)]; omega), nu_g, c1, nu_b, w11, nu_b, if_pos rfl, d2, nu_b, show nI 99 = nI 100 - nI 1 by decide, em_takesT d4 (by omega) hv2, f2, nu_b, nu_b, if_pos (by rw [nu_le (by decide) (by omega)]; omega), hm1.2.2.1, em_lays1 _ (by omega), nu_b]
          exact g2
        · exact qX.tr (qX.tr (qX.tr (b7.mono sTX_X) (d7.mono sTX_X)) (f7.mono sTX_X)) g4
        · have q1 : fE2 sFM σM ρM := b8.mono sTM_F
          have q2 : fE2 sFM ρM μ1 := fE2.of (c3.mono (fun a k y => Or.inl y))
          have q3 : fE2 sFM μ1 μ2 := d8.mono sTM_F
          have q4 : fE2 sFM μ2 μ3 := f8.mono sTM_F
          have q5 : fE2 sFM μ3 (fm_sI μ3 97 (16 + 10 * ng + 1) (nI v2)) := fE2.of (fEq.set (Or.inl rfl))
          have i : ∀ a k, sFM a k → sFM a k := fun _ _ y => y
          exact (((((q1.tr q2 i i).tr q3 i i).tr q4 i i).tr q5 i i).tr g5 i i : fE2 sFM σM σM')
      · refine ⟨nI 0, nI 0, ρX2, μ2, ?_, ?_, Or.inr ⟨rfl, s2, by have := d5.1; have := d5.2.1; omega, d3.2.1, d4.2.2.1, Or.inl rfl⟩, qX.tr (b7.mono sTX_X) (d7.mono sTX_X), ?_, nu_bz0⟩
        · unfold m_X9_readPresent
          simp only [nu_lit]
          rw [tX.2.2.2.1, if_pos rfl, tX.2.2.2.2 rfl, hx.2.1, if_pos (by rw [nu_lt (by omega) (by omega)]; exact hv), b1, nu_b, b3.2.2.2.1, if_pos rfl, d1, nu_b, d3.2.2.2.1]
          have := d5.2.2.2.2
          by_cases q : t2 = 13
          · have := d5.2.2.2.1
            rw [if_pos (by rw [q]), d3.2.2.2.2 q, if_neg (by rw [nu_le (by omega) (by omega)]; omega)]
          · rw [if_neg (by rw [nu_eq (by omega) (by omega)]; exact q)]
        · unfold m_X12_readsPresent
          simp only [nu_lit]
          rw [nu_in (by decide) (by decide), nu_g, nu_cl (n := 2) (by omega), h0, if_neg (by rw [nu_eq (by omega) (by decide)]; omega), hn0, nu_b, nu_in (by decide) (by decide), nu_g, nu_cl (n := 1) (by omega), hm.2.1, em_takesT tM (by omega) hv, b2, nu_b, nu_b, if_pos (by rw [nu_le (by decide) (by omega)]; omega), nu_g, c1, nu_b, w11, nu_b, if_pos rfl, d2, nu_b, show nI 99 = nI 100 - nI 1 by decide, em_takesF d4 (by omega) y2, nu_b, if_neg (by decide)]
        · have q1 : fE2 sFM σM ρM := b8.mono sTM_F
          have q2 : fE2 sFM ρM μ1 := fE2.of (c3.mono (fun a k y => Or.inl y))
          have q3 : fE2 sFM μ1 μ2 := d8.mono sTM_F
          have i : ∀ a k, sFM a k → sFM a k := fun _ _ y => y
          exact ((q1.tr q2 i i).tr q3 i i : fE2 sFM σM μ2)
    · obtain ⟨rM, σX', σM', g1, g2, g3, g4, g5⟩ := tail_both (e0 := e0) hb hng hv (show 0 ≤ 99 by omega) ho hx1 c2 b3 tM1 b5 (by omega)
      refine ⟨nI 1, rM, σX', σM', ?_, ?_, g3, ?_, ?_, nu_bz1⟩
      · have := b5.2.2.2.2
        unfold m_X9_readPresent
        simp only [nu_lit]
        rw [tX.2.2.2.1, if_pos rfl, tX.2.2.2.2 rfl, hx.2.1, if_pos (by rw [nu_lt (by omega) (by omega)]; exact hv), b1, nu_b, b3.2.2.2.1, if_neg (by rw [nu_eq (by omega) (by omega)]; exact y)]
        exact g1
      · have w4 : m_X12_wordOf 104 μ1 = some (if t1 = 10 then nI 0 else -nI 1, μ1) := by rw [em_w104 tM1.2.1 tM1.2.2.2.2, if_neg y]
        unfold m_X12_readsPresent
        simp only [nu_lit]
        rw [nu_in (by decide) (by decide), nu_g, nu_cl (n := 2) (by omega), h0, if_neg (by rw [nu_eq (by omega) (by decide)]; omega), hn0, nu_b, nu_in (by decide) (by decide), nu_g, nu_cl (n := 1) (by omega), hm.2.1, em_takesT tM (by omega) hv, b2, nu_b, nu_b, if_pos (by rw [nu_le (by decide) (by omega)]; omega), nu_g, c1, nu_b, w4, nu_b, if_neg (show ¬ (if t1 = 10 then nI 0 else -nI 1) = nI 1 by split <;> decide), hm1.2.2.1]
        exact g2
      · exact qX.tr (b7.mono sTX_X) g4
      · have q1 : fE2 sFM σM ρM := b8.mono sTM_F
        have q2 : fE2 sFM ρM μ1 := fE2.of (c3.mono (fun a k y => Or.inl y))
        have i : ∀ a k, sFM a k → sFM a k := fun _ _ y => y
        exact ((q1.tr q2 i i).tr g5 i i : fE2 sFM σM σM')
  · refine ⟨nI 0, nI 0, σX, σM, ?_, ?_, Or.inr ⟨rfl, s, by omega, tX.2.1, tM.2.2.1, Or.inl rfl⟩, fEq.rf, fE2.rf, nu_bz0⟩
    · unfold m_X9_readPresent
      simp only [nu_lit]
      rw [tX.2.2.2.1]
      by_cases q : t = 13
      · rw [if_pos (by rw [q]), tX.2.2.2.2 q, hx.2.1, if_neg (by rw [nu_lt (by omega) (by omega)]; omega)]
      · rw [if_neg (by rw [nu_eq (by omega) (by omega)]; exact q)]
    · unfold m_X12_readsPresent
      simp only [nu_lit]
      rw [nu_in (by decide) (by decide), nu_g, nu_cl (n := 2) (by omega), h0, if_neg (by rw [nu_eq (by omega) (by decide)]; omega), hn0, nu_b, nu_in (by decide) (by decide), nu_g, nu_cl (n := 1) (by omega), hm.2.1, em_takesF tM (by omega) z, nu_b, if_neg (by decide)]
theorem item_both {bt : Nat → Nat} {n s e t v dy np ng : Nat} {kd jy : Nat → Nat} {pr : Nat → Nat → Nat} {σX σM : fm_M} (hb : btOk bt n) (ho : tOk dy np ng kd jy pr) (hx : xTown σX 58 dy np ng kd jy pr) (hm : mTown σM 97 dy np ng kd jy pr) (tX : tkX σX bt n s e t v) (tM : tkM σM bt n s e t v) (tO : tkO n s e t v) :
    ∃ (rX rM : Int32) (σX' σM' : fm_M), m_X9_readItem 58 σX = some (rX, σX') ∧ m_X12_readsItem σM = some (rM, σM') ∧ itR bt n e dy rX rM σX' σM' ∧ fEq sX σX σX' ∧ fE2 sFM σM σM' ∧ (rM = nI 1 → t ≠ 14) := by
  have hn := hb.1
  obtain ⟨o1, o2, -⟩ := id ho
  obtain ⟨p1, p2, p3, p4, p5⟩ := id tO
  have w3 := em_w103 tM.2.1 tM.2.2.2.2
  have w4 := em_w104 tM.2.1 tM.2.2.2.2
  by_cases z : t < 6
  · rw [if_pos z] at w3
    by_cases y : np = 6
    · refine ⟨nI 0, nI 0, σX, σM, ?_, ?_, Or.inr ⟨rfl, s, by omega, tX.2.1, tM.2.2.1, Or.inl rfl⟩, fEq.rf, fE2.rf, fun q => absurd q (by decide)⟩
      · unfold m_X9_readItem m_X10_addPerson
        simp only [nu_lit]
        rw [tX.2.2.2.1, if_neg (by rw [nu_le (by omega) (by omega)]; omega), hx.2.1, if_neg (by rw [nu_lt (by omega) (by omega)]; omega), nu_b, if_neg (by decide)]
      · unfold m_X12_readsItem
        simp only [nu_lit]
        rw [w3, nu_b, if_pos (by rw [nu_le (by decide) (by omega)]; omega), nu_in (by decide) (by decide), nu_g, nu_cl (n := 1) (by omega), hm.2.1, y, if_pos rfl]
    · obtain ⟨τX, a1, a2, a3⟩ := ex_addPerson (w := t) ho hx (by omega)
      obtain ⟨τM, b1, b2, b3⟩ := em_addsPerson (w := t) ho hm (by omega)
      have tX1 := tkX58 tX a3
      have tM1 := tkM97 tM b3
      obtain ⟨s1, e1, t1, v1, ρX, ρM, c1, c2, c3, c4, c5, c6, c7, c8⟩ := step_both hb p2 tX1.1 tX1.2.2.1 tM1.1 tM1.2.1 tM1.2.2.2.1
      have ok := ho.addK (w := t) (by omega) z
      refine ⟨nI 1, nI 1, ρX, ρM, ?_, ?_, Or.inl ⟨rfl, rfl, s1, e1, t1, v1, np + 1, ng, _, _, pr, c3, c4, c5, c6, ok, a2.tk ok c7, b2.tk c8⟩, qX.tr (a3.mono sB_X) (c7.mono sTX_X), ?_, fun _ => by omega⟩
      · unfold m_X9_readItem
        simp only [nu_lit]
        rw [tX.2.2.2.1, if_neg (by rw [nu_le (by omega) (by omega)]; omega), a1, nu_b, if_pos (by rw [nu_le (by decide) (by omega)]; omega), c1, nu_b]
      · unfold m_X12_readsItem
        simp only [nu_lit]
        rw [w3, nu_b, if_pos (by rw [nu_le (by decide) (by omega)]; omega), nu_in (by decide) (by decide), nu_g, nu_cl (n := 1) (by omega), hm.2.1, if_neg (by rw [nu_eq (by omega) (by decide)]; exact y), b1, nu_b, c2, nu_b]
      · have q1 : fE2 sFM σM τM := fE2.of (b3.mono (fun a k y => Or.inl y))
        have i : ∀ a k, sFM a k → sFM a k := fun _ _ y => y
        exact (q1.tr c8 i sTM_F : fE2 sFM σM ρM)
  · rw [if_neg z] at w3
    by_cases y : t = 10
    · subst y
      rw [if_pos rfl] at w4
      by_cases q : ng = 8
      · refine ⟨nI 0, nI 0, σX, σM, ?_, ?_, Or.inr ⟨rfl, s, by omega, tX.2.1, tM.2.2.1, Or.inl rfl⟩, fEq.rf, fE2.rf, fun q => absurd q (by decide)⟩
        · unfold m_X9_readItem
          simp only [nu_lit]
          rw [tX.2.2.2.1, if_pos (by decide), if_pos rfl, hx.2.2.1, if_neg (by rw [nu_lt (by omega) (by omega)]; omega)]
        · have e1 : m_X12_readsPresent σM = some (nI 0, σM) := by
            unfold m_X12_readsPresent
            simp only [nu_lit]
            rw [nu_in (by decide) (by decide), nu_g, nu_cl (n := 2) (by omega), hm.2.2.1, q, if_pos rfl]
          unfold m_X12_readsItem
          simp only [nu_lit]
          rw [w3, nu_b, if_neg (by decide), w4, nu_b, if_pos rfl, e1, nu_b, if_pos rfl]
      · obtain ⟨s1, e1, t1, v1, ρX, ρM, c1, c2, c3, c4, c5, c6, c7, c8⟩ := step_both hb p2 tX.1 tX.2.2.1 tM.1 tM.2.1 tM.2.2.2.1
        obtain ⟨rX, rM, σX', σM', d1, d2, d3, d4, d5, d6⟩ := present_both (e0 := e) hb (by omega) ho (hx.tk ho c7) (hm.tk c8) hm.2.2.1 c2 c3 c4 c5 c6
        have hX : m_X9_readItem 58 σX = some (rX, σX') := by
          unfold m_X9_readItem
          simp only [nu_lit]
          rw [tX.2.2.2.1, if_pos (by decide), if_pos rfl, hx.2.2.1, if_pos (by rw [nu_lt (by omega) (by omega)]; omega), c1, nu_b, d1, nu_b, d6, nu_g]
        have i : ∀ a k, sFM a k → sFM a k := fun _ _ y => y
        refine ⟨rX, rM, σX', σM', hX, ?_, d3, qX.tr (c7.mono sTX_X) d4, c8.tr d5 sTM_F i, fun _ => by decide⟩
        unfold m_X12_readsItem
        simp only [nu_lit]
        rw [w3, nu_b, if_neg (by decide), w4, nu_b, if_pos rfl, d2, nu_b]
        rcases d3 with ⟨-, g, -⟩ | ⟨g, -⟩
        · rw [g, if_neg nI10]
        · rw [g, if_pos rfl]
    · refine ⟨nI 0, nI 0, σX, σM, ?_, ?_, Or.inr ⟨rfl, s, by omega, tX.2.1, tM.2.2.1, Or.inl rfl⟩, fEq.rf, fE2.rf, fun q => absurd q (by decide)⟩
      · unfold m_X9_readItem
        simp only [nu_lit]
        rw [tX.2.2.2.1, if_pos (by rw [nu_le (by omega) (by omega)]; omega), if_neg (by rw [nu_eq (by omega) (by omega)]; exact y)]
      · rw [if_neg y] at w4
        unfold m_X12_readsItem
        simp only [nu_lit]
        rw [w3, nu_b, if_neg (by decide), w4, nu_b, if_neg (show ¬ (if t = 11 then nI 1 else -nI 1) = nI 0 by split <;> decide)]
theorem tkC14 {t v : Nat} {mt : Int32} {mv : Int64} (h : tkC t v mt mv) : mt = nI 0 ↔ t = 14 := by
  rcases h with h | h | h | h | h | h | h
  · rw [h.2.1]; exact ⟨fun q => absurd q (by decide), fun q => by have := h.1; omega⟩
  · rw [h.2.1]; exact ⟨fun q => absurd q (by decide), fun q => by have := h.1; omega⟩
  · rw [h.2]; exact ⟨fun q => absurd q (by decide), fun q => by have := h.1; omega⟩
  · rw [h.2.2.1]; exact ⟨fun q => absurd q (by decide), fun q => by have := h.1; omega⟩
  · rw [h.2.2]; exact ⟨fun q => absurd q (by decide), fun q => by have := h.1; omega⟩
  · exact ⟨fun _ => h.1, fun _ => h.2⟩
  · rw [h.2]; exact ⟨fun q => absurd q (by decide), fun q => by have := h.1; omega⟩
theorem tkC12 {t v : Nat} {mt : Int32} {mv : Int64} (h : tkC t v mt mv) : mt = nI 3 ↔ t = 12 := by
  rcases h with h | h | h | h | h | h | h
  · rw [h.2.1]; exact ⟨fun q => absurd q (by decide), fun q => by have := h.1; omega⟩
  · rw [h.2.1]; exact ⟨fun q => absurd q (by decide), fun q => by have := h.1; omega⟩
  · exact ⟨fun _ => h.1, fun _ => h.2⟩
  · rw [h.2.2.1]; exact ⟨fun q => absurd q (by decide), fun q => by have := h.1; omega⟩
  · rw [h.2.2]; exact ⟨fun q => absurd q (by decide), fun q => by have := h.1; omega⟩
  · rw [h.2]; exact ⟨fun q => absurd q (by decide), fun q => by have := h.1; omega⟩
  · rw [h.2]; exact ⟨fun q => absurd q (by decide), fun q => by have := h.1; omega⟩
