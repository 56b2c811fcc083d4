theorem zn_le {L : Nat} (h1 : 1 ≤ L) (h5 : L ≤ 5) : zn L 0 ≤ 11111 := by
  have : L = 1 ∨ L = 2 ∨ L = 3 ∨ L = 4 ∨ L = 5 := by omega
  rcases this with rfl | rfl | rfl | rfl | rfl <;> decide
theorem sg_cong {L : Nat} {c : Nat} : sg L (cdr (dg L c) L) = sg L (cdr (dg L c) L) := rfl
theorem cdr_cong {r s : Nat → Nat} : ∀ n, (∀ k, k < n → r k = s k) → cdr r n = cdr s n
  | 0, _ => rfl
  | n + 1, h => by rw [cdr, cdr, cdr_cong n (fun k hk => h k (by omega)), h n (by omega)]
theorem op_order (x v : Int32) {σ : fm_M} (h : Inv σ) : opS (m_X11_order x v) (m_X12_order x v) σ := by
  obtain ⟨hR, dy, np, ng, kd, jy, pr, k1, k2, k3, k4⟩ := id h
  have o1 := k1.1
  have o2 := k1.2.1
  rcases nu_ix x (n := ng) (by omega) with ⟨jx, hx, rfl⟩ | hx
  · rcases nu_ix1 v (n := 10) (by decide) with ⟨jv, gv, hv, rfl⟩ | hv
    · obtain ⟨hr, hr2⟩ := k1.2.2.2.2 jx hx
      have h0 := hr.1
      have xj := k3.2.2.2.2 jx hx
      have e0 : σ.1 (8 + 9 + 2 * jx) 1 = nI (pr jx 0) := xj.n
      by_cases z0 : pr jx 0 = 0
      · refine stp_find 3 (by decide) h ?_ (fun σ1 hs => ?_)
        · unfold m_X11_order
          simp only [nu_lit, fnd3]
          rw [ex_isPresentT k3.2.2.1 o2 hx, nu_b, if_neg nI10, ex_wT (by omega) (by omega) (by decide), nu_b, if_neg nI10, nu_in (by omega) (by decide), nu_g, nu_cl (n := jx) (by omega), e0, z0, if_pos rfl]
        · have m1 := k4.keep (fun k => hs 97 k (by omega))
          unfold m_X12_order
          simp only [nu_lit]
          rw [em_isPresentT m1.2.2.1 o2 hx, nu_b, if_neg nI10, em_in1T _ (by omega) (by omega) (by decide), nu_b, if_neg nI10, em_of1 _ (by omega), nu_b, m1.2.2.2.2 jx hx 0 (by omega), z0, if_pos rfl]
      · have z1 : ¬ nI (pr jx 0) = nI 0 := by rw [nu_eq (by omega) (by decide)]; exact z0
        by_cases z5 : pr jx 0 ≤ 5
        · generalize hL : pr jx 0 = L at z0 z1 z5 e0
          have hp : ∀ k, k < L → pr jx (4 + k) < 4 := fun k hk => hr.2.2.2 k (by omega)
          have hcl := cdr_lt (r := fun k => pr jx (4 + k)) L hp
          have hcd : ∀ k, k < L → dg L (cdr (fun k => pr jx (4 + k)) L) k = pr jx (4 + k) := fun k hk => dg_cdr L k hp hk
          obtain ⟨τ1, s1, s2, s3⟩ := ex_startLoop (L := L) (g := jx) (p := dg L (cdr (fun k => pr jx (4 + k)) L)) (x := pr jx) (r0 := fun _ => 0) z5 (by omega) hL (fun k hk => ⟨(hcd k hk).symm, dg_lt _ _ _⟩) L fm_fu 0 σ (by have := nu_fu; omega) (by omega) (fun k hk => by omega) xj
          have c1 := ck1_all (L := L) (c := cdr (fun k => pr jx (4 + k)) L) (by omega) z5 hcl
          unfold ck1 at c1
          simp only [Bool.and_eq_true, decide_eq_true_eq, beq_iff_eq] at c1
          obtain ⟨d1, d2, d3, d4⟩ := c1
          have row1 : rowR τ1 L (dg L (cdr (srt (dg L (cdr (fun k => pr jx (4 + k)) L)) L (fun _ => 0)) L)) := fun k hk => by
            have e := alB_at _ _ _ d1 (Nat.zero_le k) (by omega)
            have e' : dg L (cdr (srt (dg L (cdr (fun k => pr jx (4 + k)) L)) L (fun _ => 0)) L) k = srt (dg L (cdr (fun k => pr jx (4 + k)) L)) L (fun _ => 0) k := by simpa using e
            rw [e']; exact s2 k hk
          generalize cdr (srt (dg L (cdr (fun k => pr jx (4 + k)) L)) L (fun _ => 0)) L = u at d1 d2 d3 d4 row1
          have c2 := ck2_all (L := L) (c := u) (by omega) z5 d2
          unfold ck2 at c2
          rw [d4] at c2
          simp only [Bool.not_true, Bool.false_or, Bool.and_eq_true, decide_eq_true_eq] at c2
          obtain ⟨n1, n2⟩ := c2
          have q1 : fEq sX σ τ1 := s3.mono (fun a k q => Or.inr (Or.inl q))
          obtain ⟨σ1, a1, a2⟩ := ex_orderLoop (g := jx) (N := jv) (L := L) (S := sg L u) k1 k2 (by omega) hx (by omega) z5 (4 ^ L) fm_fu 0 u τ1 (nI 0, -nI 1) (by omega) d2 rfl (by omega) (by have := nu_fu; omega) (k3.q k1 q1) row1
          have q2 := qX.tr q1 a2
          have m1 := k4.qX q2
          obtain ⟨σ2, b1, b2⟩ := em_orderLoop (fun (x1_y22) (x2_y22) (x4_y22) (x5_y22) (x6_y22) (x7_y22) (σ_y22) => some (x5_y22, σ_y22)) (g := jx) (N := jv) (L := L) k1 k2 (by omega) hx (by omega) z5 hL (4 * zn L 0 + 1 - zn L 0) fm_fu (zn L 0) σ1 (nI 0, -nI 1) (by have := nu_fu; have := zn_le (show 1 ≤ L by omega) z5; omega) (by omega) (Nat.le_refl _) (by decide) m1
          have P4 : 0 < 4 ^ L := Nat.lt_of_le_of_lt (Nat.zero_le _) d2
          obtain ⟨j, hj⟩ : ∃ j, 4 ^ L = j + 1 := ⟨4 ^ L - 1, by omega⟩
          have ff := fz_fc (L := L) (S := sg L (cdr (fun k => pr jx (4 + k)) L)) (v := tOrd np ng jv dy kd jy pr jx L) (by omega) z5 j 0 (nI 0, -nI 1) (by omega)
          rw [← d3, ← hj] at ff
          have fs := fcS_skip (L := L) (S := sg L u) (v := tOrd np ng jv dy kd jy pr jx L) (m := 4 ^ L - u) u 0 (nI 0, -nI 1) n1
          rw [show u + (4 ^ L - u) = 4 ^ L by omega, Nat.zero_add] at fs
          rw [← d3, ff, fs] at b1
          refine stp_q (fcS L (sg L u) (tOrd np ng jv dy kd jy pr jx L) (4 ^ L - u) u (nI 0, -nI 1)).1 h ?_ q2 ?_ b2
          · unfold m_X11_order
            simp only [nu_lit]
            rw [ex_isPresentT k3.2.2.1 o2 hx, nu_b, if_neg nI10, ex_wT (by omega) (by omega) (by decide), nu_b, if_neg nI10, nu_in (by omega) (by decide), nu_g, nu_cl (n := jx) (by omega), e0, if_neg z1, if_pos (by rw [nu_le (by omega) (by omega)]; exact z5)]
            have st : m_X11_startRow (nI jx) (nI L) σ = some ((), τ1) := by
              unfold m_X11_startRow
              simp only [nu_lit]
              exact s1
            rw [st, nu_b]
            exact a1
          · unfold m_X12_order
            simp only [nu_lit]
            rw [em_isPresentT m1.2.2.1 o2 hx, nu_b, if_neg nI10, em_in1T _ (by omega) (by omega) (by decide), nu_b, if_neg nI10, em_of1 _ (by omega), nu_b, m1.2.2.2.2 jx hx 0 (by omega), hL, if_neg z1, if_pos (by rw [nu_le (by omega) (by omega)]; exact z5), em_order59 _ (by omega) z5]
            exact b1
        · refine stp_find 6 (by decide) h ?_ (fun σ1 hs => ?_)
          · unfold m_X11_order
            simp only [nu_lit, fnd6]
            rw [ex_isPresentT k3.2.2.1 o2 hx, nu_b, if_neg nI10, ex_wT (by omega) (by omega) (by decide), nu_b, if_neg nI10, nu_in (by omega) (by decide), nu_g, nu_cl (n := jx) (by omega), e0, if_neg z1, if_neg (by rw [nu_le (by omega) (by omega)]; exact z5)]
          · have m1 := k4.keep (fun k => hs 97 k (by omega))
            unfold m_X12_order
            simp only [nu_lit]
            rw [em_isPresentT m1.2.2.1 o2 hx, nu_b, if_neg nI10, em_in1T _ (by omega) (by omega) (by decide), nu_b, if_neg nI10, em_of1 _ (by omega), nu_b, m1.2.2.2.2 jx hx 0 (by omega), if_neg z1, if_neg (by rw [nu_le (by omega) (by omega)]; exact z5)]
    · refine stp_find 0 (by decide) h ?_ (fun σ1 hs => ?_)
      · unfold m_X11_order
        simp only [nu_lit, fnd0]
        rw [ex_isPresentT k3.2.2.1 o2 hx, nu_b, if_neg nI10, em_within, if_neg hv, nu_b, if_pos rfl]
      · have m1 := k4.keep (fun k => hs 97 k (by omega))
        unfold m_X12_order
        simp only [nu_lit]
        rw [em_isPresentT m1.2.2.1 o2 hx, nu_b, if_neg nI10, em_in1, if_neg hv, nu_b, if_pos rfl]
  · refine stp_find 0 (by decide) h ?_ (fun σ1 hs => ?_)
    · unfold m_X11_order
      simp only [nu_lit, fnd0]
      rw [ex_isPresentF k3.2.2.1 o2 hx, nu_b, if_pos rfl]
    · have m1 := k4.keep (fun k => hs 97 k (by omega))
      unfold m_X12_order
      simp only [nu_lit]
      rw [em_isPresentF m1.2.2.1 o2 hx, nu_b, if_pos rfl]
