theorem ck1_all {L c : Nat} (h1 : 1 ≤ L) (h5 : L ≤ 5) (hc : c < 4 ^ L) : ck1 L c = true := by
  have : L = 1 ∨ L = 2 ∨ L = 3 ∨ L = 4 ∨ L = 5 := by omega
  rcases this with rfl | rfl | rfl | rfl | rfl
  · exact alB_at _ _ _ ck1_1 (by omega) (by omega)
  · exact alB_at _ _ _ ck1_2 (by omega) (by omega)
  · exact alB_at _ _ _ ck1_3 (by omega) (by omega)
  · exact alB_at _ _ _ ck1_4 (by omega) (by omega)
  · exact alB_at _ _ _ ck1_5 (by omega) (by omega)
theorem ck2_all {L c : Nat} (h1 : 1 ≤ L) (h5 : L ≤ 5) (hc : c < 4 ^ L) : ck2 L c = true := by
  have : L = 1 ∨ L = 2 ∨ L = 3 ∨ L = 4 ∨ L = 5 := by omega
  rcases this with rfl | rfl | rfl | rfl | rfl
  · exact alB_at _ _ _ ck2_1 (by omega) (by omega)
  · exact alB_at _ _ _ ck2_2 (by omega) (by omega)
  · exact alB_at _ _ _ ck2_3 (by omega) (by omega)
  · exact alB_at _ _ _ ck2_4 (by omega) (by omega)
  · exact alB_at _ _ _ ck2_5 (by omega) (by omega)
theorem ck3_all {L c : Nat} (h1 : 1 ≤ L) (h5 : L ≤ 5) (hc : c < 4 ^ L) : ck3 L c = true := by
  have : L = 1 ∨ L = 2 ∨ L = 3 ∨ L = 4 ∨ L = 5 := by omega
  rcases this with rfl | rfl | rfl | rfl | rfl
  · exact alB_at _ _ _ ck3_1 (by omega) (by omega)
  · exact alB_at _ _ _ ck3_2 (by omega) (by omega)
  · exact alB_at _ _ _ ck3_3 (by omega) (by omega)
  · exact alB_at _ _ _ ck3_4 (by omega) (by omega)
  · exact alB_at _ _ _ ck3_5 (by omega) (by omega)
theorem ck4_all {L c : Nat} (h1 : 1 ≤ L) (h5 : L ≤ 5) (hc : c + 1 < 4 ^ L) : ck4 L c = true := by
  have : L = 1 ∨ L = 2 ∨ L = 3 ∨ L = 4 ∨ L = 5 := by omega
  rcases this with rfl | rfl | rfl | rfl | rfl
  · exact alB_at _ _ _ ck4_1 (by omega) (by omega)
  · exact alB_at _ _ _ ck4_2 (by omega) (by omega)
  · exact alB_at _ _ _ ck4_3 (by omega) (by omega)
  · exact alB_at _ _ _ ck4_4 (by omega) (by omega)
  · exact alB_at _ _ _ ck4_5 (by omega) (by omega)
/-- the best of the codes of these counts, from c on -/
def fcS (L S : Nat) (v : Nat → Nat) : Nat → Nat → Int32 × Int32 → Int32 × Int32
  | 0, _, s => s
  | m + 1, c, s => fcS L S v m (c + 1) (if sg L c = S then (if nI (v c) ≤ s.2 then s else (nI (zn L c), nI (v c))) else s)
theorem noS_step {L S m c : Nat} (h : noS L S (m + 1) c = true) : ¬ sg L c = S ∧ noS L S m (c + 1) = true := by
  unfold noS at h
  rw [alB, Bool.and_eq_true] at h
  refine ⟨fun e => ?_, h.2⟩
  have := h.1
  simp [e] at this
theorem fcS_skip {L S : Nat} {v : Nat → Nat} {m : Nat} : ∀ (k c : Nat) (s : Int32 × Int32), noS L S k c = true → fcS L S v (k + m) c s = fcS L S v m (c + k) s
  | 0, c, s, _ => by rw [Nat.zero_add, Nat.add_zero]
  | k + 1, c, s, h => by
    obtain ⟨h1, h2⟩ := noS_step h
    rw [show k + 1 + m = (k + m) + 1 by omega, fcS, if_neg h1, fcS_skip k (c + 1) s h2, show c + 1 + k = c + (k + 1) by omega]
theorem cnS_skip {L S m : Nat} : ∀ (k c : Nat), noS L S k c = true → cnS L S (k + m) c = cnS L S m (c + k)
  | 0, c, _ => by rw [Nat.zero_add, Nat.add_zero]
  | k + 1, c, h => by
    obtain ⟨h1, h2⟩ := noS_step h
    rw [show k + 1 + m = (k + m) + 1 by omega, cnS, if_neg h1, cnS_skip k (c + 1) h2, show c + 1 + k = c + (k + 1) by omega, Nat.zero_add]
def tOrd (np ng N dy : Nat) (kd jy : Nat → Nat) (pr : Nat → Nat → Nat) (g L u : Nat) : Nat := sm (tDays np ng kd N (dy, jy, fun i => if i = g then rL (pr g) (dg L u) L else pr i)).2.1 np
theorem ex_orderLoop {dy np ng g N L S : Nat} {kd jy : Nat → Nat} {pr : Nat → Nat → Nat} (ho : tOk dy np ng kd jy pr) (h9 : dy ≤ 9999) (hN : N ≤ 30) (hg : g < ng) (h1 : 1 ≤ L) (hL : L ≤ 5) : ∀ (M fuel k u : Nat) (σ : fm_M) (s : Int32 × Int32), 4 ^ L - u ≤ M → u < 4 ^ L → sg L u = S → k + cnS L S (4 ^ L - u) u ≤ 120 → 130 ≤ fuel + k → xTown σ 8 dy np ng kd jy pr → rowR σ L (dg L u) → ∃ σ', m_X11_order_79 (fun (x1_y34) (x2_y34) (x3_y34) (x4_y34) (x5_y34) (x6_y34) (x7_y34) (σ_y34) => some (x4_y34, σ_y34)) fuel (nI g) (nI N) (nI L) s.1 s.2 (nI 1) (nI k) σ = some ((fcS L S (tOrd np ng N dy kd jy pr g L) (4 ^ L - u) u s).1, σ') ∧ fEq sX σ σ' := by
  have o2 := ho.2.1
  intro M
  induction M with
  | zero => intro fuel k u σ s hM hu; omega
  | succ M ih =>
    intro fuel k u σ s hM hu hS hk hf ht hrow
    obtain ⟨m, hm⟩ : ∃ m, 4 ^ L - u = m + 1 := ⟨4 ^ L - u - 1, by omega⟩
    rw [hm, cnS, if_pos hS] at hk
    obtain ⟨n, rfl⟩ : ∃ n, fuel = n + 1 := ⟨fuel - 1, by omega⟩
    obtain ⟨n2, rfl⟩ : ∃ n2, n = n2 + 1 := ⟨n - 1, by omega⟩
    have rk := ho.2.2.2.2 g hg
    have ok := ho.setP (g := g) (x := rL (pr g) (dg L u) L) (rL_ok rk.1 (by omega) (fun i _ => dg_lt _ _ _)) (by unfold rL; rw [if_neg (by omega), if_neg (by omega)]; exact rk.2)
    obtain ⟨σ1, u1, u2, u3⟩ := ex_become (b := 58) (c := 8) (by omega) ho ht
    have st : m_X11_startTrial σ = some ((), σ1) := by unfold m_X11_startTrial; rw [u1, nu_b]
    have row1 : rowR σ1 L (dg L u) := fun i hi => by rw [u3.1 _ _ (by unfold sB; omega)]; exact hrow i hi
    obtain ⟨σ2, p1, p2, p3⟩ := ex_anew hL (by omega) row1 (u2.2.2.2.2 g hg)
    have t2 := u2.setP ho p2 p3
    obtain ⟨σ3, w1, w2, w3⟩ := ex_goOn (b := 58) (q := (dy, jy, fun i => if i = g then rL (pr g) (dg L u) L else pr i)) (N := N) (by omega) ok (by dsimp only; omega) t2
    have row3 : rowR σ3 L (dg L u) := fun i hi => by rw [w3.1 _ _ (by unfold sB; omega), p3.1 _ _ (fun z => by rcases z with z | z <;> omega)]; exact row1 i hi
    have jv : m_X10_joyOfAll 58 σ3 = some (nI (tOrd np ng N dy kd jy pr g L u), σ3) := ex_joyOfAll (tDays_ok2 N ok (by omega)) w2
    have q3 : fEq sX σ σ3 := qX.tr (qX.tr (u3.mono sB_X) (p3.mono (sA_X (by omega)))) (w3.mono sB_X)
    have an := ex_asNum hL row3
    have fcu : fcS L S (tOrd np ng N dy kd jy pr g L) (4 ^ L - u) u s = fcS L S (tOrd np ng N dy kd jy pr g L) m (u + 1) (if nI (tOrd np ng N dy kd jy pr g L u) ≤ s.2 then s else (nI (zn L u), nI (tOrd np ng N dy kd jy pr g L u))) := by rw [hm, fcS, if_pos hS]
    rw [fcu]
    generalize hs' : (if nI (tOrd np ng N dy kd jy pr g L u) ≤ s.2 then s else (nI (zn L u), nI (tOrd np ng N dy kd jy pr g L u))) = s'
    have head : m_X11_order_79 (fun (x1_y34) (x2_y34) (x3_y34) (x4_y34) (x5_y34) (x6_y34) (x7_y34) (σ_y34) => some (x4_y34, σ_y34)) (n2 + 1 + 1) (nI g) (nI N) (nI L) s.1 s.2 (nI 1) (nI k) σ = fm_b (m_X11_nextRow (nI L) σ3) fun r28 σ29 => (m_X11_order_79 (fun (x1_y34) (x2_y34) (x3_y34) (x4_y34) (x5_y34) (x6_y34) (x7_y34) (σ_y34) => some (x4_y34, σ_y34)) (n2 + 1) (nI g) (nI N) (nI L) s'.1 s'.2 r28 (nI (k + 1)) σ29) := by
      rw [m_X11_order_79]
      simp only [nu_lit, nI_add, nu_j]
      rw [if_neg (by rw [nu_le (by omega) (by omega)]; omega), if_neg nI10, st, nu_b, nu_in (by omega) (by decide), nu_g, nu_cl (n := g) (by omega), p1, nu_b, w1, nu_b, jv, nu_b, an, nu_b, ← hs']
      by_cases z : nI (tOrd np ng N dy kd jy pr g L u) ≤ s.2
      · rw [if_pos z, if_pos z]
      · rw [if_neg z, if_neg z]
    rw [head]
    have c3 := ck3_all h1 hL hu
    unfold ck3 at c3
    by_cases z : fi (dg L u) (L - 1) = 0
    · rw [if_pos z, hS, show 4 ^ L - (u + 1) = m by omega] at c3
      refine ⟨σ3, ?_, q3⟩
      have := fcS_skip (v := tOrd np ng N dy kd jy pr g L) (m := 0) m (u + 1) s' c3
      rw [Nat.add_zero] at this
      rw [ex_nextNo h1 hL row3 z, nu_b, this, fcS, m_X11_order_79]
      simp only [nu_lit]
      rw [if_pos trivial]
      by_cases y : nI 120 ≤ nI (k + 1)
      · rw [if_pos y]
      · rw [if_neg y]
    · rw [if_neg z] at c3
      simp only [Bool.and_eq_true, decide_eq_true_eq, beq_iff_eq] at c3
      obtain ⟨d1, d2, d3, d4, d5⟩ := c3
      obtain ⟨σ4, y1, y2, y3⟩ := ex_nextYes h1 hL row3 z
      generalize hu' : cdr (nxR L (dg L u)) L = u' at d1 d2 d3 d4 d5
      rw [hS] at d4 d5
      have row4 : rowR σ4 L (dg L u') := fun i hi => by
        have e := alB_at _ _ _ d1 (Nat.zero_le i) (by omega)
        have e' : dg L u' i = nxR L (dg L u) i := by simpa using e
        rw [e']; exact y2 i hi
      have q4 : fEq sX σ σ4 := fEq.tr (S := sX) q3 y3 (fun _ _ z => z) (fun a k z => Or.inr (Or.inl z))
      have em : m = (u' - (u + 1)) + (4 ^ L - u') := by omega
      have cn := cnS_skip (m := 4 ^ L - u') (u' - (u + 1)) (u + 1) d5
      rw [← em, show u + 1 + (u' - (u + 1)) = u' by omega] at cn
      have fs := fcS_skip (v := tOrd np ng N dy kd jy pr g L) (m := 4 ^ L - u') (u' - (u + 1)) (u + 1) s' d5
      rw [← em, show u + 1 + (u' - (u + 1)) = u' by omega] at fs
      obtain ⟨σ', x1, x2⟩ := ih (n2 + 1) (k + 1) u' σ4 s' (by omega) d3 d4 (by rw [cn] at hk; omega) (by omega) (ht.q ho q4) row4
      refine ⟨σ', ?_, qX.tr q4 x2⟩
      rw [y1, nu_b, fs]
      exact x1
