theorem s101_M : ∀ a k, s101 a k → sM a k := fun a k z => Or.inr (Or.inr (Or.inl z))
theorem tOrd_lt {dy np ng g N L u : Nat} {kd jy : Nat → Nat} {pr : Nat → Nat → Nat} (ho : tOk dy np ng kd jy pr) (h9 : dy ≤ 9999) (hN : N ≤ 30) (hg : g < ng) (hL : L ≤ 5) : tOrd np ng N dy kd jy pr g L u < 2 ^ 20 := by
  have rk := ho.2.2.2.2 g hg
  have o1 := ho.1
  have ok := ho.setP (g := g) (x := rL (pr g) (dg L u) L) (rL_ok rk.1 (by omega) (fun i _ => dg_lt _ _ _)) (by unfold rL; rw [if_neg (by omega), if_neg (by omega)]; exact rk.2)
  have ok2 := tDays_ok2 (kd := kd) N ok (by omega)
  have := sm_le (c := 9999) np (fun i hi => (ok2.2.2.2.1 i hi).2)
  unfold tOrd
  have h6 : np * 9999 ≤ 6 * 9999 := Nat.mul_le_mul_right _ o1
  omega
theorem em_orderLoop (kc : Int32 → Int32 → Int32 → Int32 → Int32 → Int32 → fm_M → Option (Int32 × fm_M)) {dy np ng g N L : Nat} {kd jy : Nat → Nat} {pr : Nat → Nat → Nat} (ho : tOk dy np ng kd jy pr) (h9 : dy ≤ 9999) (hN : N ≤ 30) (hg : g < ng) (h1 : 1 ≤ L) (hL : L ≤ 5) (h0 : pr g 0 = L) : ∀ (m fuel z : Nat) (σ : fm_M) (s : Int32 × Int32), m < fuel → z + m = 4 * zn L 0 + 1 → zn L 0 ≤ z → -nI 1 ≤ s.2 → mTown σ 97 dy np ng kd jy pr → ∃ σ', m_X12_order_90 kc fuel (nI g) (nI N) (nI (zn L 0)) s.1 s.2 (nI z) σ = kc (nI g) (nI N) (nI (zn L 0)) (fzS L (sg L (cdr (fun k => pr g (4 + k)) L)) (tOrd np ng N dy kd jy pr g L) m z s).1 (fzS L (sg L (cdr (fun k => pr g (4 + k)) L)) (tOrd np ng N dy kd jy pr g L) m z s).2 (nI (4 * zn L 0 + 1)) σ' ∧ fEq sM σ σ' := by
  have o2 := ho.2.1
  have rk := ho.2.2.2.2 g hg
  have zb := (zn_dgs h1 hL (Nat.le_refl _) (by omega)).2
  intro m
  induction m with
  | zero =>
    intro fuel z σ s hf hz hlo hs ht
    obtain ⟨n, rfl⟩ : ∃ n, fuel = n + 1 := ⟨fuel - 1, by omega⟩
    refine ⟨σ, ?_, fEq.rf⟩
    rw [m_X12_order_90, fzS]
    simp only [nu_lit, pk_mul]
    rw [if_pos (by rw [nu_lt (by omega) (by omega)]; omega), show z = 4 * zn L 0 + 1 by omega]
  | succ m ih =>
    intro fuel z σ s hf hz hlo hs ht
    obtain ⟨n, rfl⟩ : ∃ n, fuel = n + 1 := ⟨fuel - 1, by omega⟩
    obtain ⟨hd, hb⟩ := zn_dgs h1 hL hlo (show z ≤ 4 * zn L 0 by omega)
    obtain ⟨σ1, a1, a2⟩ := em_isOrder (x := pr g) (by omega) hL h0 rk.1 (ht.2.2.2.2 g hg) hd hb
    have t1 := ht.q ho (a2.mono s101_M)
    rw [fzS, m_X12_order_90]
    simp only [nu_lit, pk_mul, nI_add, nu_j]
    rw [if_neg (by rw [nu_lt (by omega) (by omega)]; omega), a1, nu_b]
    by_cases y : (vd L z && decide (sg L (cz L z) = sg L (cdr (fun k => pr g (4 + k)) L))) = true
    · have hv : vd L z = true := by rw [Bool.and_eq_true] at y; exact y.1
      obtain ⟨σ2, b1, b2⟩ := em_joyBy ho h9 hN hg h1 hL h0 hd hv hb t1
      have lt := tOrd_lt (u := cz L z) ho h9 hN hg hL
      have qq := qM.tr (a2.mono s101_M) b2
      rw [if_pos y, if_pos y, if_neg nI10, b1, nu_b]
      by_cases w : nI (tOrd np ng N dy kd jy pr g L (cz L z)) ≤ s.2
      · obtain ⟨σ', c1, c2⟩ := ih n (z + 1) σ2 s (by omega) (by omega) (by omega) hs (t1.q ho b2)
        refine ⟨σ', ?_, qM.tr qq c2⟩
        rw [if_pos w, if_pos w, if_pos w]
        exact c1
      · obtain ⟨σ', c1, c2⟩ := ih n (z + 1) σ2 (nI z, nI (tOrd np ng N dy kd jy pr g L (cz L z))) (by omega) (by omega) (by omega) (Int32.le_trans (show -nI 1 ≤ nI 0 by decide) (by rw [nu_le (by omega) (by omega)]; omega)) (t1.q ho b2)
        refine ⟨σ', ?_, qM.tr qq c2⟩
        rw [if_neg w, if_neg w, if_neg w]
        exact c1
    · obtain ⟨σ', c1, c2⟩ := ih n (z + 1) σ1 s (by omega) (by omega) (by omega) hs t1
      refine ⟨σ', ?_, qM.tr (a2.mono s101_M) c2⟩
      rw [if_neg y, if_neg y, if_pos rfl, if_pos hs, if_pos hs]
      exact c1
theorem em_order59 (kc : Int32 → Int32 → Int32 → Int32 → Int32 → fm_M → Option (Int32 × fm_M)) {σ : fm_M} {z1 z2 : Int32} {L : Nat} (h1 : 1 ≤ L) (hL : L ≤ 5) : m_X12_order_59 kc fm_fu z1 z2 (nI L) (nI 1) (nI 1) σ = kc z1 z2 (nI L) (nI (zn L 0)) (nI L) σ := by
  obtain ⟨n, hn⟩ : ∃ n, fm_fu = n + 6 := ⟨fm_fu - 6, by have := nu_fu; omega⟩
  rw [hn]
  have : L = 1 ∨ L = 2 ∨ L = 3 ∨ L = 4 ∨ L = 5 := by omega
  rcases this with rfl | rfl | rfl | rfl | rfl <;> rfl
