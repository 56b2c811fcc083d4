def xTown (σ : fm_M) (b dy np ng : Nat) (kd jy : Nat → Nat) (pr : Nat → Nat → Nat) : Prop := σ.1 b 3 = nI dy ∧ σ.1 b 4 = nI np ∧ σ.1 b 5 = nI ng ∧ (∀ k, k < np → σ.1 (b + 2 + k) 0 = nI (kd k) ∧ σ.1 (b + 2 + k) 1 = nI (jy k)) ∧ ∀ g, g < ng → xRec σ (b + 9 + 2 * g) (pr g)
def sB (b : Nat) : Nat → Nat → Prop := fun c _ => b ≤ c ∧ c < b + 25
theorem bt_get0 : ∀ m, m < 256 → ∀ p, p < 8 → ((nI m >>> (nI p &&& nI 31)) &&& nI 1 = nI 0 ↔ m.testBit p = false) := by decide +kernel
/-- the town's state behind the presents below g -/
def jX (np ng dy : Nat) (kd jy : Nat → Nat) (pr : Nat → Nat → Nat) (g : Nat) : Nat → Nat := fun k => if tAct ng pr k < g then tJn np ng dy kd jy pr k else jy k
def pX (np ng dy : Nat) (kd jy : Nat → Nat) (pr : Nat → Nat → Nat) (g : Nat) : Nat → Nat → Nat := fun i => if i < g then tPn np ng dy kd jy pr i else pr i
theorem ex_dayLoop (kc : Nat → Int32 → Int32 → fm_M → Option (Unit × fm_M)) {b dy np ng : Nat} {kd jy : Nat → Nat} {pr : Nat → Nat → Nat} (hok : tOk dy np ng kd jy pr) : ∀ (m fuel g v : Nat) (σ : fm_M), m < fuel → g + m = ng → xTown σ b dy np ng kd (jX np ng dy kd jy pr g) (pX np ng dy kd jy pr g) → v < 256 → (∀ k, k < np → (v.testBit k = true ↔ tAct ng pr k < g)) → ∃ v' σ', m_X10_oneDay_4 kc fuel b (nI v) (nI g) σ = kc b (nI v') (nI ng) σ' ∧ xTown σ' b dy np ng kd (jX np ng dy kd jy pr ng) (pX np ng dy kd jy pr ng) ∧ fEq (sB b) σ σ' := by
  obtain ⟨h1, h2, h3, h4, h5⟩ := id hok
  intro m
  induction m with
  | zero =>
    intro fuel g v σ hf hg ht hv hvb
    obtain ⟨n, rfl⟩ : ∃ n, fuel = n + 1 := ⟨fuel - 1, by omega⟩
    have e : g = ng := by omega
    subst e
    refine ⟨v, σ, ?_, ht, fEq.rf⟩
    rw [m_X10_oneDay_4, ht.2.2.1, if_pos (by rw [nu_le (by omega) (by omega)]; omega)]
  | succ m ih =>
    intro fuel g v σ hf hg ht hv hvb
    obtain ⟨n, rfl⟩ : ∃ n, fuel = n + 1 := ⟨fuel - 1, by omega⟩
    have hgn : g < ng := by omega
    obtain ⟨t0, t1, t2, t3, t4⟩ := id ht
    have xg := t4 g hgn
    have epg : pX np ng dy kd jy pr g g = pr g := by unfold pX; rw [if_neg (by omega)]
    rw [epg] at xg
    have w3 : σ.1 (b + 9 + 2 * g) 4 = nI (pr g 3) := xg.1 3 (by omega)
    have w2 : σ.1 (b + 9 + 2 * g) 3 = nI (pr g 2) := xg.1 2 (by omega)
    obtain ⟨rg, r2⟩ := h5 g hgn
    have r3 := rg.2.2.1
    -- nothing is done: the state stays
    have stay : tAct ng pr (pr g 2) ≠ g → xTown σ b dy np ng kd (jX np ng dy kd jy pr (g + 1)) (pX np ng dy kd jy pr (g + 1)) ∧ ∀ k, k < np → (tAct ng pr k < g + 1 ↔ tAct ng pr k < g) := by
      intro hna
      have na : ∀ k, tAct ng pr k ≠ g := fun k hk => by
        have := tAct_yes (k := k) (pr := pr) (ng := ng) (by omega)
        rw [hk] at this
        rw [this.1] at hna
        exact hna hk
      refine ⟨⟨t0, t1, t2, fun k hk => ⟨(t3 k hk).1, ?_⟩, fun i hi => ?_⟩, fun k hk => by have := na k; omega⟩
      · rw [(t3 k hk).2]
        unfold jX
        have := na k
        by_cases z : tAct ng pr k < g
        · rw [if_pos z, if_pos (by omega)]
        · rw [if_neg z, if_neg (by omega)]
      · have : pX np ng dy kd jy pr (g + 1) i = pX np ng dy kd jy pr g i := by
          unfold pX
          by_cases e : i = g
          · subst e; rw [if_pos (by omega), if_neg (by omega)]; unfold tPn; rw [if_neg hna]
          · by_cases e2 : i < g
            · rw [if_pos (by omega), if_pos e2]
            · rw [if_neg (by omega), if_neg e2]
        rw [this]; exact t4 i hi
    rw [m_X10_oneDay_4, t2, if_neg (by rw [nu_le (by omega) (by omega)]; omega), nu_in (by omega) (by decide), nu_g, nu_cl (by omega), w3, w2]
    simp only [nu_lit, nI_add, nu_eq (show pr g 3 < 2 ^ 30 by omega) (show 0 < 2 ^ 30 by decide)]
    by_cases z3 : pr g 3 = 0
    · rw [if_pos z3]
      have hbit := bt_get0 v hv (pr g 2) (by omega)
      by_cases zb : v.testBit (pr g 2) = false
      · rw [if_pos (hbit.mpr zb)]
        -- it is in hand
        have hge : ¬ tAct ng pr (pr g 2) < g := fun z => by rw [(hvb _ r2).mpr z] at zb; cases zb
        have hact : tAct ng pr (pr g 2) = g := by
          rcases Nat.lt_or_ge g (tAct ng pr (pr g 2)) with z | z
          · have := lf_no (p := fun i => decide (pr i 2 = pr g 2 ∧ pr i 3 = 0)) (n := ng) z
            simp [z3] at this
          · omega
        have ejk : jX np ng dy kd jy pr g (pr g 2) = jy (pr g 2) := by unfold jX; rw [if_neg hge]
        have hj0 := (t3 _ r2).2
        rw [ejk] at hj0
        have bs := bt_set v hv (pr g 2) (by omega)
        have en : tPn np ng dy kd jy pr g = (tTurn (kd (pr g 2)) dy np (pr g 2) (pr g, jy (pr g 2))).1 := by unfold tPn; rw [if_pos hact]
        have enj : tJn np ng dy kd jy pr (pr g 2) = (tTurn (kd (pr g 2)) dy np (pr g 2) (pr g, jy (pr g 2))).2 := by unfold tJn; rw [hact, if_pos hgn]
        -- what follows a turn
        have go : ∀ σ1, xRec σ1 (b + 9 + 2 * g) (tTurn (kd (pr g 2)) dy np (pr g 2) (pr g, jy (pr g 2))).1 → σ1.1 (b + 2 + pr g 2) 1 = nI (tTurn (kd (pr g 2)) dy np (pr g 2) (pr g, jy (pr g 2))).2 → fEq (sAJ (b + 9 + 2 * g) (b + 2 + pr g 2)) σ σ1 → ∃ v' σ', m_X10_oneDay_4 kc n b (nI v ||| (nI 1 <<< (nI (pr g 2) &&& nI 31))) (nI (g + 1)) σ1 = kc b (nI v') (nI ng) σ' ∧ xTown σ' b dy np ng kd (jX np ng dy kd jy pr ng) (pX np ng dy kd jy pr ng) ∧ fEq (sB b) σ σ' := by
          intro σ1 u2 u3 u5
          have out : ∀ a i, a ≠ b + 9 + 2 * g → a ≠ b + 9 + 2 * g + 1 → ¬ (a = b + 2 + pr g 2 ∧ i = 1) → σ1.1 a i = σ.1 a i := fun a i e1 e2 e3 => u5.1 _ _ (fun z => z.elim (fun z => z.elim e1 e2) e3)
          rw [bs.1]
          have hT : xTown σ1 b dy np ng kd (jX np ng dy kd jy pr (g + 1)) (pX np ng dy kd jy pr (g + 1)) := by
            refine ⟨by rw [out _ _ (by omega) (by omega) (by omega)]; exact t0, by rw [out _ _ (by omega) (by omega) (by omega)]; exact t1, by rw [out _ _ (by omega) (by omega) (by omega)]; exact t2, fun k hk => ⟨by rw [out _ _ (by omega) (by omega) (by omega)]; exact (t3 k hk).1, ?_⟩, fun i hi => ?_⟩
            · by_cases e : k = pr g 2
              · subst e
                rw [u3]
                unfold jX
                rw [if_pos (by omega), enj]
              · rw [out _ _ (by omega) (by omega) (by omega), (t3 k hk).2]
                have hk2 : tAct ng pr k ≠ g := fun z => by
                  have := (tAct_yes (k := k) (pr := pr) (ng := ng) (by omega)).1
                  rw [z] at this; exact e this.symm
                unfold jX
                by_cases z : tAct ng pr k < g
                · rw [if_pos z, if_pos (by omega)]
                · rw [if_neg z, if_neg (by omega)]
            · by_cases e : i = g
              · subst e
                have : pX np ng dy kd jy pr (i + 1) i = tPn np ng dy kd jy pr i := by unfold pX; rw [if_pos (by omega)]
                rw [this, en]; exact u2
              · have : pX np ng dy kd jy pr (g + 1) i = pX np ng dy kd jy pr g i := by
                  unfold pX
                  by_cases e2 : i < g
                  · rw [if_pos (by omega), if_pos e2]
                  · rw [if_neg (by omega), if_neg e2]
                rw [this]
                exact (t4 i hi).out (fun j => out _ _ (by omega) (by omega) (by omega)) (fun j => out _ _ (by omega) (by omega) (by omega))
          have hB : ∀ k, k < np → ((v ||| 2 ^ (pr g 2)).testBit k = true ↔ tAct ng pr k < g + 1) := by
            intro k hk
            rw [bt_or, Bool.or_eq_true, decide_eq_true_eq, hvb k hk]
            constructor
            · rintro (h | h)
              · omega
              · rw [← h]; omega
            · intro h
              by_cases z : tAct ng pr k < g
              · exact Or.inl z
              · right
                have e : tAct ng pr k = g := by omega
                have := (tAct_yes (k := k) (pr := pr) (ng := ng) (by omega)).1
                rw [e] at this; exact this
          obtain ⟨v', σ', q1, q2, q3⟩ := ih n (g + 1) (v ||| 2 ^ (pr g 2)) σ1 (by omega) (by omega) hT bs.2 hB
          refine ⟨v', σ', q1, q2, fEq.tr (S1 := sAJ (b + 9 + 2 * g) (b + 2 + pr g 2)) (S2 := sB b) u5 q3 (fun a i h => ?_) (fun _ _ h => h)⟩
          rcases h with (h | h) | h
          · exact ⟨by omega, by omega⟩
          · exact ⟨by omega, by omega⟩
          · have := h.1; exact ⟨by omega, by omega⟩
        by_cases zp : kPass (kd (pr g 2)) dy (pr g 0) = 0 ∨ np < 2
        · rw [ex_handsNo r2 h1 (h4 _ r2).1 rg xg (t3 _ r2).1 t0 h3 t1 zp, nu_b, if_pos rfl]
          obtain ⟨σ1, o1, o2, o3, o4⟩ := ex_openBy (b := b) (k := pr g 2) (by omega) (h4 _ r2).1 (by omega) (by omega) rg (h4 _ r2).2 xg hj0 (t3 _ r2).1 t0 h3
          rw [o1, nu_b]
          have eT : tTurn (kd (pr g 2)) dy np (pr g 2) (pr g, jy (pr g 2)) = tOpen (kd (pr g 2)) dy (pr g, jy (pr g 2)) := by unfold tTurn; rw [if_pos zp]
          exact go σ1 (by rw [eT]; exact o2) (by rw [eT]; exact o3) o4
        · obtain ⟨σ1, o1, o2, o3⟩ := ex_handsYes (b := b) r2 h1 (h4 _ r2).1 (by omega) (by omega) rg xg (t3 _ r2).1 t0 h3 t1 zp
          rw [o1, nu_b, if_neg (show ¬ nI 1 = nI 0 by decide)]
          have eT : tTurn (kd (pr g 2)) dy np (pr g 2) (pr g, jy (pr g 2)) = (tGive (kd (pr g 2)) dy np (pr g 2) (pr g), jy (pr g 2)) := by unfold tTurn; rw [if_neg zp]
          exact go σ1 (by rw [eT]; exact o2) (by rw [eT, o3.1 _ _ (fun z => by rcases z with z | z <;> omega)]; exact hj0) (o3.mono (fun _ _ h => Or.inl h))
      · rw [if_neg (fun h => zb (hbit.mp h))]
        have hlt : tAct ng pr (pr g 2) < g := (hvb _ r2).mp (by simpa using zb)
        obtain ⟨s1, s2⟩ := stay (by omega)
        exact ih n (g + 1) v σ (by omega) (by omega) s1 hv (fun k hk => by rw [hvb k hk, s2 k hk])
    · rw [if_neg z3]
      have hna : tAct ng pr (pr g 2) ≠ g := fun z => by
        have := (tAct_yes (k := pr g 2) (pr := pr) (ng := ng) (by omega)).2
        rw [z] at this; exact z3 this
      obtain ⟨s1, s2⟩ := stay hna
      exact ih n (g + 1) v σ (by omega) (by omega) s1 hv (fun k hk => by rw [hvb k hk, s2 k hk])
theorem ex_day {σ : fm_M} {b dy np ng : Nat} {kd jy : Nat → Nat} {pr : Nat → Nat → Nat} (hok : tOk dy np ng kd jy pr) (ht : xTown σ b dy np ng kd jy pr) : ∃ σ', m_X10_oneDay b σ = some ((), σ') ∧ xTown σ' b (dy + 1) np ng kd (tJn np ng dy kd jy pr) (tPn np ng dy kd jy pr) ∧ fEq (sB b) σ σ' := by
  obtain ⟨h1, h2, h3, h4, h5⟩ := id hok
  unfold m_X10_oneDay
  simp only [nu_lit]
  have e0 : jX np ng dy kd jy pr 0 = jy := by funext k; unfold jX; rw [if_neg (by omega)]
  have e1 : pX np ng dy kd jy pr 0 = pr := by funext k; unfold pX; rw [if_neg (by omega)]
  obtain ⟨v', σ1, q1, q2, q3⟩ := ex_dayLoop (fun (x0_y8 : Nat) (x1_y8 : Int32) (x2_y8 : Int32) (σ_y8 : fm_M) => fm_let (fm_sI σ_y8 x0_y8 3 ((σ_y8.1 x0_y8 3) + nI 1)) fun σ9 => (some ((), σ9))) (b := b) hok ng fm_fu 0 0 σ (by have := nu_fu; omega) (by omega) (by rw [e0, e1]; exact ht) (by decide) (fun k hk => by simp)
  rw [q1, nu_let, q2.1, nI_add]
  refine ⟨_, rfl, ⟨by rw [nu_sI, if_pos ⟨rfl, rfl⟩], by rw [nu_sI, if_neg (by omega)]; exact q2.2.1, by rw [nu_sI, if_neg (by omega)]; exact q2.2.2.1, fun k hk => ⟨by rw [nu_sI, if_neg (by omega)]; exact (q2.2.2.2.1 k hk).1, ?_⟩, fun g hg => ?_⟩, fEq.tr (S1 := sB b) q3 (fEq.set (S := sB b) ⟨by omega, by omega⟩) (fun _ _ h => h) (fun _ _ h => h)⟩
  · rw [nu_sI, if_neg (by omega), (q2.2.2.2.1 k hk).2]
    unfold jX
    by_cases z : tAct ng pr k < ng
    · rw [if_pos z]
    · rw [if_neg z]; unfold tJn; rw [if_neg z]
  · have e : pX np ng dy kd jy pr ng g = tPn np ng dy kd jy pr g := by unfold pX; rw [if_pos hg]
    have := q2.2.2.2.2 g hg
    rw [e] at this
    exact this.out (fun j => by rw [nu_sI, if_neg (by omega)]) (fun j => by rw [nu_sI, if_neg (by omega)])
theorem ex_goLoop (kc : Nat → Int32 → Int32 → fm_M → Option (Unit × fm_M)) {b np ng N : Nat} {kd : Nat → Nat} (hN : N < 2 ^ 10) : ∀ (m fuel i : Nat) (σ : fm_M) (q : Nat × (Nat → Nat) × (Nat → Nat → Nat)), m < fuel → i + m = N → tOk q.1 np ng kd q.2.1 q.2.2 → q.1 + m < 2 ^ 20 → xTown σ b q.1 np ng kd q.2.1 q.2.2 → ∃ σ', m_X10_goOn_2 kc fuel b (nI N) (nI i) σ = kc b (nI N) (nI N) σ' ∧ xTown σ' b (tDays np ng kd m q).1 np ng kd (tDays np ng kd m q).2.1 (tDays np ng kd m q).2.2 ∧ fEq (sB b) σ σ' := by
  intro m
  induction m with
  | zero =>
    intro fuel i σ q hf hi hok hd ht
    obtain ⟨n, rfl⟩ : ∃ n, fuel = n + 1 := ⟨fuel - 1, by omega⟩
    refine ⟨σ, ?_, ht, fEq.rf⟩
    rw [m_X10_goOn_2, if_pos (by rw [nu_le (by omega) (by omega)]; omega), show i = N by omega]
  | succ m ih =>
    intro fuel i σ q hf hi hok hd ht
    obtain ⟨n, rfl⟩ : ∃ n, fuel = n + 1 := ⟨fuel - 1, by omega⟩
    obtain ⟨σ1, u1, u2, u3⟩ := ex_day hok ht
    obtain ⟨σ', v1, v2, v3⟩ := ih n (i + 1) σ1 (q.1 + 1, tJn np ng q.1 kd q.2.1 q.2.2, tPn np ng q.1 kd q.2.1 q.2.2) (by omega) (by omega) (tDay_ok hok (by omega)) (by dsimp only; omega) u2
    refine ⟨σ', ?_, v2, fEq.tr u3 v3 (fun _ _ h => h) (fun _ _ h => h)⟩
    rw [m_X10_goOn_2, if_neg (by rw [nu_le (by omega) (by omega)]; omega), u1, nu_b]
    simp only [nu_lit, nI_add]
    exact v1
theorem ex_goOn {σ : fm_M} {b np ng N : Nat} {kd : Nat → Nat} {q : Nat × (Nat → Nat) × (Nat → Nat → Nat)} (hN : N < 2 ^ 10) (hok : tOk q.1 np ng kd q.2.1 q.2.2) (hd : q.1 + N < 2 ^ 20) (ht : xTown σ b q.1 np ng kd q.2.1 q.2.2) : ∃ σ', m_X10_goOn b (nI N) σ = some ((), σ') ∧ xTown σ' b (tDays np ng kd N q).1 np ng kd (tDays np ng kd N q).2.1 (tDays np ng kd N q).2.2 ∧ fEq (sB b) σ σ' := by
  unfold m_X10_goOn
  simp only [nu_lit]
  obtain ⟨σ', v1, v2, v3⟩ := ex_goLoop (fun (x0_y4 : Nat) (x1_y4 : Int32) (x2_y4 : Int32) (σ_y4 : fm_M) => some ((), σ_y4)) (b := b) hN N fm_fu 0 σ q (by have := nu_fu; omega) (by omega) hok hd ht
  exact ⟨σ', v1, v2, v3⟩
