/-! A TOWN: day, people, presents, kinds, joys, presents' rows -/
def mTown (σ : fm_M) (c dy np ng : Nat) (kd jy : Nat → Nat) (pr : Nat → Nat → Nat) : Prop := σ.1 c 0 = nI dy ∧ σ.1 c 1 = nI np ∧ σ.1 c 2 = nI ng ∧ (∀ k, k < np → σ.1 c (4 + 2 * k) = nI (kd k) ∧ σ.1 c (5 + 2 * k) = nI (jy k)) ∧ ∀ g, g < ng → mRec σ c g (pr g)
def tOk (dy np ng : Nat) (kd jy : Nat → Nat) (pr : Nat → Nat → Nat) : Prop := np ≤ 6 ∧ ng ≤ 8 ∧ dy < 2 ^ 20 ∧ (∀ k, k < np → kd k < 6 ∧ jy k ≤ 9999) ∧ ∀ g, g < ng → rOk (pr g) ∧ pr g 2 < np
/-- the present that a person has in hand in a day (ng: none) -/
def tAct (ng : Nat) (pr : Nat → Nat → Nat) (k : Nat) : Nat := lf (fun g => decide (pr g 2 = k ∧ pr g 3 = 0)) ng
def tJn (np ng dy : Nat) (kd jy : Nat → Nat) (pr : Nat → Nat → Nat) (k : Nat) : Nat := if tAct ng pr k < ng then (tTurn (kd k) dy np k (pr (tAct ng pr k), jy k)).2 else jy k
def tPn (np ng dy : Nat) (kd jy : Nat → Nat) (pr : Nat → Nat → Nat) (g : Nat) : Nat → Nat := if tAct ng pr (pr g 2) = g then (tTurn (kd (pr g 2)) dy np (pr g 2) (pr g, jy (pr g 2))).1 else pr g
theorem tAct_yes {ng k : Nat} {pr : Nat → Nat → Nat} (h : tAct ng pr k < ng) : pr (tAct ng pr k) 2 = k ∧ pr (tAct ng pr k) 3 = 0 := of_decide_eq_true (p := pr (tAct ng pr k) 2 = k ∧ pr (tAct ng pr k) 3 = 0) (lf_yes (p := fun g => decide (pr g 2 = k ∧ pr g 3 = 0)) h)
theorem tAct_le (ng k : Nat) (pr : Nat → Nat → Nat) : tAct ng pr k ≤ ng := lf_le _ _
theorem tPn_ok {dy np ng : Nat} {kd jy : Nat → Nat} {pr : Nat → Nat → Nat} (h : tOk dy np ng kd jy pr) {g : Nat} (hg : g < ng) : rOk (tPn np ng dy kd jy pr g) ∧ tPn np ng dy kd jy pr g 2 < np := by
  obtain ⟨h1, h2, h3, h4, h5⟩ := h
  unfold tPn
  split
  · have := tTurn_ok (kd := kd (pr g 2)) (day := dy) (np := np) (k := pr g 2) (q := (pr g, jy (pr g 2))) (h5 g hg).1 (h4 _ (h5 g hg).2).2 (h5 g hg).2 rfl
    exact ⟨this.1, this.2.2⟩
  · exact h5 g hg
theorem tJn_ok {dy np ng : Nat} {kd jy : Nat → Nat} {pr : Nat → Nat → Nat} (h : tOk dy np ng kd jy pr) {k : Nat} (hk : k < np) : tJn np ng dy kd jy pr k ≤ 9999 := by
  obtain ⟨h1, h2, h3, h4, h5⟩ := h
  unfold tJn
  split
  · rename_i hl
    exact (tTurn_ok (kd := kd k) (day := dy) (np := np) (k := k) (q := (pr (tAct ng pr k), jy k)) (h5 _ hl).1 (h4 k hk).2 hk (tAct_yes hl).1).2.1
  · exact (h4 k hk).2
theorem tDay_ok {dy np ng : Nat} {kd jy : Nat → Nat} {pr : Nat → Nat → Nat} (h : tOk dy np ng kd jy pr) (hd : dy + 1 < 2 ^ 20) : tOk (dy + 1) np ng kd (tJn np ng dy kd jy pr) (tPn np ng dy kd jy pr) := ⟨h.1, h.2.1, hd, fun k hk => ⟨(h.2.2.2.1 k hk).1, tJn_ok h hk⟩, fun g hg => tPn_ok h hg⟩
-- the reference's way: people by numbers
theorem em_forLoop (kc : Int32 → Int32 → fm_M → Option (Int32 × fm_M)) {σ : fm_M} {ng k b : Nat} {pr : Nat → Nat → Nat} (hg8 : ng ≤ 8) (hk6 : k < 6) (hg : σ.1 97 2 = nI ng) (hb : σ.1 96 5 = nI b) (hb2 : b < 256) (hx : ∀ g, g < ng → mRec σ 97 g (pr g)) (hr : ∀ g, g < ng → pr g 2 < 2 ^ 20 ∧ pr g 3 ≤ 1) : ∀ (m fuel i : Nat), m < fuel → i + m = ng → m_X12_presentFor_2 kc fuel (nI k) (nI i) σ = kc (nI k) (nI (tf (fun g => decide (pr g 2 = k ∧ pr g 3 = 0) && !b.testBit g) m i)) σ := by
  intro m
  induction m with
  | zero =>
    intro fuel i hf hi
    obtain ⟨n, rfl⟩ : ∃ n, fuel = n + 1 := ⟨fuel - 1, by omega⟩
    rw [m_X12_presentFor_2]
    simp only [nu_lit]
    rw [nu_in (by decide) (by decide), nu_g, nu_cl (n := 2) (by omega), hg, if_pos (by rw [nu_le (by omega) (by omega)]; omega), tf]
  | succ m ih =>
    intro fuel i hf hi
    obtain ⟨n, rfl⟩ : ∃ n, fuel = n + 1 := ⟨fuel - 1, by omega⟩
    have e2 : σ.1 97 (16 + 10 * i + 2) = nI (pr i 2) := hx i (by omega) 2 (by omega)
    have e3 : σ.1 97 (16 + 10 * i + 3) = nI (pr i 3) := hx i (by omega) 3 (by omega)
    obtain ⟨r2, r3⟩ := hr i (by omega)
    have nx := ih n (i + 1) (by omega) (by omega)
    rw [m_X12_presentFor_2]
    simp only [nu_lit, nI_add]
    rw [nu_in (by decide) (by decide), nu_g, nu_cl (n := 2) (by omega), hg, if_neg (by rw [nu_le (by omega) (by omega)]; omega), em_of1 σ (by omega), nu_b, e2, tf]
    simp only [nu_eq (show pr i 2 < 2 ^ 30 by omega) (show k < 2 ^ 30 by omega)]
    by_cases z2 : pr i 2 = k
    · rw [if_pos z2, em_of1 σ (by omega), nu_b, e3]
      simp only [nu_eq (show pr i 3 < 2 ^ 30 by omega) (show 1 < 2 ^ 30 by decide)]
      by_cases z3 : pr i 3 = 1
      · rw [if_pos z3, nx, if_neg (by simp [z3])]
      · rw [if_neg z3, hb]
        have hbit := bt_get b hb2 i (by omega)
        by_cases z4 : b.testBit i = true
        · rw [if_pos (hbit.mpr z4), nx, if_neg (by simp [z4])]
        · rw [if_neg (fun h => z4 (hbit.mp h)), if_pos]
          have : pr i 3 = 0 := by omega
          simp [z2, this]
          simpa using z4
    · rw [if_neg z2, nx, if_neg (by simp [z2])]
theorem em_presentFor {σ : fm_M} {ng k b : Nat} {pr : Nat → Nat → Nat} (hg8 : ng ≤ 8) (hk6 : k < 6) (hg : σ.1 97 2 = nI ng) (hb : σ.1 96 5 = nI b) (hb2 : b < 256) (hx : ∀ g, g < ng → mRec σ 97 g (pr g)) (hr : ∀ g, g < ng → pr g 2 < 2 ^ 20 ∧ pr g 3 ≤ 1) : m_X12_presentFor (nI k) σ = some (nI (lf (fun g => decide (pr g 2 = k ∧ pr g 3 = 0) && !b.testBit g) ng), σ) := by
  unfold m_X12_presentFor
  simp only [nu_lit]
  rw [em_forLoop _ hg8 hk6 hg hb hb2 hx hr ng fm_fu 0 (by have := nu_fu; omega) (by omega)]
  rfl
/-- the town's state behind the turns of the people below k -/
def jM (np ng dy : Nat) (kd jy : Nat → Nat) (pr : Nat → Nat → Nat) (k : Nat) : Nat → Nat := fun i => if i < k then tJn np ng dy kd jy pr i else jy i
def pM (np ng dy : Nat) (kd jy : Nat → Nat) (pr : Nat → Nat → Nat) (k : Nat) : Nat → Nat → Nat := fun g => if pr g 2 < k then tPn np ng dy kd jy pr g else pr g
/-- which presents have been passed on by then -/
def bM (np ng dy : Nat) (kd : Nat → Nat) (pr : Nat → Nat → Nat) (k g : Nat) : Prop := pr g 2 < k ∧ tAct ng pr (pr g 2) = g ∧ tPasses (kd (pr g 2)) dy np (pr g) = true
def sTown : Nat → Nat → Prop := fun a i => a = 97 ∨ (a = 96 ∧ i = 5)
theorem mRec_out {σ σ' : fm_M} {p g k : Nat} {x : Nat → Nat} (hx : mRec σ 97 g x) (h0 : x 0 ≤ 6) (h : fEq (sTn p k) σ σ') (hne : g ≠ p) (hk : k < 6) : mRec σ' 97 g x := fun f hf => by
  rw [h.1 _ _ (fun z => ?_)]
  · exact hx f hf
  · rcases z with (z | z) | z
    · have := z.2.1; have := z.2.2; omega
    · have := z.2; omega
    · have := z.1; omega
theorem em_dayLoop (kc : Int32 → fm_M → Option (Unit × fm_M)) {dy np ng : Nat} {kd jy : Nat → Nat} {pr : Nat → Nat → Nat} (hok : tOk dy np ng kd jy pr) : ∀ (m fuel k : Nat) (σ : fm_M) (b : Nat), m < fuel → k + m = np → mTown σ 97 dy np ng kd (jM np ng dy kd jy pr k) (pM np ng dy kd jy pr k) → σ.1 96 5 = nI b → b < 256 → (∀ g, g < ng → (b.testBit g = true ↔ bM np ng dy kd pr k g)) → ∃ σ', m_X12_day_7 kc fuel (nI k) σ = kc (nI np) σ' ∧ mTown σ' 97 dy np ng kd (jM np ng dy kd jy pr np) (pM np ng dy kd jy pr np) ∧ fEq sTown σ σ' := by
  intro m
  induction m with
  | zero =>
    intro fuel k σ b hf hk ht hb hb2 hbm
    obtain ⟨n, rfl⟩ : ∃ n, fuel = n + 1 := ⟨fuel - 1, by omega⟩
    obtain ⟨h1, h2, h3, h4, h5⟩ := hok
    have hkn : k = np := by omega
    subst hkn
    refine ⟨σ, ?_, ht, fEq.rf⟩
    rw [m_X12_day_7]
    simp only [nu_lit]
    rw [nu_in (by decide) (by decide), nu_g, nu_cl (n := 1) (by omega), ht.2.1, if_pos (by rw [nu_le (by omega) (by omega)]; omega)]
  | succ m ih =>
    intro fuel k σ b hf hk ht hb hb2 hbm
    obtain ⟨n, rfl⟩ : ∃ n, fuel = n + 1 := ⟨fuel - 1, by omega⟩
    obtain ⟨h1, h2, h3, h4, h5⟩ := id hok
    obtain ⟨t0, t1, t2, t3, t4⟩ := ht
    have hkn : k < np := by omega
    have hpk : ∀ g, g < ng → rOk (pM np ng dy kd jy pr k g) ∧ pM np ng dy kd jy pr k g 2 < np := by
      intro g hg
      unfold pM
      split
      · exact tPn_ok hok hg
      · exact h5 g hg
    have hfor := em_presentFor (σ := σ) (k := k) h2 (by omega) t2 hb hb2 t4 (fun g hg => ⟨by have := (hpk g hg).2; omega, (hpk g hg).1.2.2.1⟩)
    have hact : lf (fun g => decide (pM np ng dy kd jy pr k g 2 = k ∧ pM np ng dy kd jy pr k g 3 = 0) && !b.testBit g) ng = tAct ng pr k := by
      refine lf_cong (fun g hg => ?_)
      have hbg := hbm g hg
      by_cases z : pr g 2 < k
      · have e1 : decide (pr g 2 = k ∧ pr g 3 = 0) = false := by rw [decide_eq_false_iff_not]; omega
        rw [e1]
        unfold pM
        rw [if_pos z]
        by_cases za : tAct ng pr (pr g 2) = g
        · by_cases zp : tPasses (kd (pr g 2)) dy np (pr g) = true
          · have : b.testBit g = true := hbg.mpr ⟨z, za, zp⟩
            simp [this]
          · have e2 : tPn np ng dy kd jy pr g 2 = pr g 2 := by
              unfold tPn
              rw [if_pos za]
              unfold tTurn
              have zq : kPass (kd (pr g 2)) dy (pr g 0) = 0 ∨ np < 2 := by
                by_cases z9 : kPass (kd (pr g 2)) dy (pr g 0) = 0 ∨ np < 2
                · exact z9
                · exact absurd (by unfold tPasses; rw [decide_eq_true_eq]; exact z9) zp
              rw [if_pos zq]
              unfold tOpen
              obtain ⟨-, -, -, -, o5, -⟩ := oneOpen_ok (kd (pr g 2)) (kOpens (kd (pr g 2)) dy (pr g 0) (pr g 4)) (pr g, jy (pr g 2)) (h5 g hg).1 (kOpens_le _ _ _ _) (h4 _ (h5 g hg).2).2
              unfold tEnd
              split
              · simp only [rSet]; rw [if_neg (by decide)]; exact o5
              · exact o5
            rw [e2]
            simp; omega
        · have e2 : tPn np ng dy kd jy pr g = pr g := by unfold tPn; rw [if_neg za]
          rw [e2]
          simp; omega
      · have e1 : pM np ng dy kd jy pr k g = pr g := by unfold pM; rw [if_neg z]
        have e2 : b.testBit g = false := by
          cases hbt : b.testBit g with
          | false => rfl
          | true => exact absurd (hbg.mp hbt).1 z
        rw [e1, e2]
        simp
    rw [m_X12_day_7]
    simp only [nu_lit, nI_add]
    rw [nu_in (by decide) (by decide), nu_g, nu_cl (n := 1) (by omega), t1, if_neg (by rw [nu_le (by omega) (by omega)]; omega), hfor, nu_b, hact, nu_in (by decide) (by decide), nu_g, nu_cl (n := 2) (by omega), t2]
    have hal := tAct_le ng k pr
    simp only [nu_le (show ng < 2 ^ 30 by omega) (show tAct ng pr k < 2 ^ 30 by omega)]
    by_cases za : ng ≤ tAct ng pr k
    · rw [if_pos za]
      have eA : tAct ng pr k = ng := by omega
      refine ih n (k + 1) σ b (by omega) (by omega) ⟨t0, t1, t2, fun i hi => ⟨(t3 i hi).1, ?_⟩, fun g hg => ?_⟩ hb hb2 (fun g hg => ?_)
      · rw [(t3 i hi).2]
        unfold jM
        by_cases e : i = k
        · subst e; rw [if_neg (Nat.lt_irrefl _), if_pos (Nat.lt_succ_self _)]; unfold tJn; rw [if_neg (by omega)]
        · by_cases e2 : i < k
          · rw [if_pos e2, if_pos (by omega)]
          · rw [if_neg e2, if_neg (by omega)]
      · have : pM np ng dy kd jy pr (k + 1) g = pM np ng dy kd jy pr k g := by
          unfold pM
          by_cases e : pr g 2 = k
          · rw [if_pos (by omega), if_neg (by omega)]; unfold tPn; rw [if_neg (by rw [e]; omega)]
          · by_cases e2 : pr g 2 < k
            · rw [if_pos (by omega), if_pos e2]
            · rw [if_neg (by omega), if_neg e2]
        rw [this]; exact t4 g hg
      · rw [hbm g hg]
        unfold bM
        constructor
        · exact fun h => ⟨by omega, h.2⟩
        · intro h
          refine ⟨?_, h.2⟩
          by_cases e : pr g 2 = k
          · have := h.2.1; rw [e] at this; omega
          · omega
    · rw [if_neg za]
      have hal2 : tAct ng pr k < ng := by omega
      obtain ⟨a1, a2⟩ := tAct_yes hal2
      generalize hA : tAct ng pr k = p at hal hal2 a1 a2 za ⊢
      have ep : pM np ng dy kd jy pr k p = pr p := by unfold pM; rw [if_neg (by omega)]
      have ej : jM np ng dy kd jy pr k k = jy k := by unfold jM; rw [if_neg (by omega)]
      have xp := t4 p hal2
      rw [ep] at xp
      obtain ⟨σ1, u1, u2, u3, u4, u5⟩ := em_takesTurn (kd := kd k) (j := jy k) hkn h1 (by omega) (h4 k hkn).1 (h5 p hal2).1 (h4 k hkn).2 xp (by rw [(t3 k hkn).2, ej]) (t3 k hkn).1 t0 h3 t1 hb hb2
      rw [u1, nu_b]
      have en : tPn np ng dy kd jy pr p = (tTurn (kd k) dy np k (pr p, jy k)).1 := by unfold tPn; rw [a1, if_pos hA]
      have enj : tJn np ng dy kd jy pr k = (tTurn (kd k) dy np k (pr p, jy k)).2 := by unfold tJn; rw [hA, if_pos hal2]
      have bs := bt_set b hb2 p (by omega)
      have hT : mTown σ1 97 dy np ng kd (jM np ng dy kd jy pr (k + 1)) (pM np ng dy kd jy pr (k + 1)) := by
        have out : ∀ i, i < 3 → σ1.1 97 i = σ.1 97 i := fun i hi => u5.1 _ _ (fun z => by
          rcases z with (z | z) | z
          · have := z.2.1; omega
          · have := z.2; omega
          · have := z.1; omega)
        refine ⟨by rw [out 0 (by omega)]; exact t0, by rw [out 1 (by omega)]; exact t1, by rw [out 2 (by omega)]; exact t2, fun i hi => ⟨?_, ?_⟩, fun g hg => ?_⟩
        · rw [u5.1 _ _ (fun z => by
            rcases z with (z | z) | z
            · have := z.2.1; omega
            · have := z.2; omega
            · have := z.1; omega)]
          exact (t3 i hi).1
        · unfold jM
          by_cases e : i = k
          · subst e; rw [if_pos (Nat.lt_succ_self _), enj]; exact u3
          · rw [u5.1 _ _ (fun z => by
              rcases z with (z | z) | z
              · have := z.2.1; omega
              · have := z.2; omega
              · have := z.1; omega), (t3 i hi).2]
            unfold jM
            by_cases e2 : i < k
            · rw [if_pos e2, if_pos (by omega)]
            · rw [if_neg e2, if_neg (by omega)]
        · by_cases e : g = p
          · subst e
            have : pM np ng dy kd jy pr (k + 1) g = tPn np ng dy kd jy pr g := by unfold pM; rw [if_pos (by omega)]
            rw [this, en]; exact u2
          · have : pM np ng dy kd jy pr (k + 1) g = pM np ng dy kd jy pr k g := by
              unfold pM
              by_cases e1 : pr g 2 = k
              · rw [if_pos (by omega), if_neg (by omega)]; unfold tPn; rw [if_neg (by rw [e1, hA]; exact fun z => e z.symm)]
              · by_cases e2 : pr g 2 < k
                · rw [if_pos (by omega), if_pos e2]
                · rw [if_neg (by omega), if_neg e2]
            rw [this]
            exact mRec_out (t4 g hg) (hpk g hg).1.1 u5 e (by omega)
      have hB : ∀ g, g < ng → ((if tPasses (kd k) dy np (pr p) = true then b ||| 2 ^ p else b).testBit g = true ↔ bM np ng dy kd pr (k + 1) g) := by
        intro g hg
        have key : bM np ng dy kd pr (k + 1) g ↔ (bM np ng dy kd pr k g ∨ (g = p ∧ tPasses (kd k) dy np (pr p) = true)) := by
          unfold bM
          constructor
          · intro h
            by_cases e : pr g 2 = k
            · right
              have h2 := h.2.1
              rw [e, hA] at h2
              subst h2
              exact ⟨rfl, by have := h.2.2; rw [e] at this; exact this⟩
            · left; exact ⟨by omega, h.2⟩
          · rintro (h | ⟨rfl, h⟩)
            · exact ⟨by omega, h.2⟩
            · exact ⟨by omega, by rw [a1]; exact hA, by rw [a1]; exact h⟩
        rw [key, ← hbm g hg]
        by_cases zp : tPasses (kd k) dy np (pr p) = true
        · rw [if_pos zp, bt_or, Bool.or_eq_true, decide_eq_true_eq]
          constructor
          · rintro (h | h)
            · exact Or.inl h
            · exact Or.inr ⟨h.symm, zp⟩
          · rintro (h | h)
            · exact Or.inl h
            · exact Or.inr h.1.symm
        · rw [if_neg zp]
          simp [zp]
      obtain ⟨σ', v1, v2, v3⟩ := ih n (k + 1) σ1 (if tPasses (kd k) dy np (pr p) = true then b ||| 2 ^ p else b) (by omega) (by omega) hT u4 (by split <;> omega) hB
      refine ⟨σ', v1, v2, fEq.tr (S1 := sTn p k) (S2 := sTown) u5 v3 (fun a i h => ?_) (fun _ _ h => h)⟩
      rcases h with (h | h) | h
      · exact Or.inl h.1
      · exact Or.inl h.1
      · exact Or.inr h
theorem em_day {σ : fm_M} {dy np ng : Nat} {kd jy : Nat → Nat} {pr : Nat → Nat → Nat} (hok : tOk dy np ng kd jy pr) (ht : mTown σ 97 dy np ng kd jy pr) : ∃ σ', m_X12_day σ = some ((), σ') ∧ mTown σ' 97 (dy + 1) np ng kd (tJn np ng dy kd jy pr) (tPn np ng dy kd jy pr) ∧ fEq sTown σ σ' := by
  obtain ⟨h1, h2, h3, h4, h5⟩ := id hok
  obtain ⟨t0, t1, t2, t3, t4⟩ := ht
  unfold m_X12_day
  simp only [nu_lit]
  rw [nu_let]
  have e0 : ∀ a k, ¬ (a = 96 ∧ k = 5) → (fm_sI σ 96 5 (nI 0)).1 a k = σ.1 a k := fun a k h => by rw [nu_sI, if_neg h]
  obtain ⟨σ1, v1, v2, v3⟩ := em_dayLoop (fun (x1_y11 : Int32) (σ_y11 : fm_M) => fm_g (fm_in1 (nI 0) 96) (fm_g (fm_in1 (nI 0) 96) (fm_let (fm_sI σ_y11 97 (nI 0).toNatClampNeg ((σ_y11.1 97 (nI 0).toNatClampNeg) + nI 1)) fun σ14 => (some ((), σ14))))) hok np fm_fu 0 (fm_sI σ 96 5 (nI 0)) 0 (by have := nu_fu; omega) (by omega) ⟨by rw [e0 _ _ (by omega)]; exact t0, by rw [e0 _ _ (by omega)]; exact t1, by rw [e0 _ _ (by omega)]; exact t2, fun k hk => ⟨by rw [e0 _ _ (by omega)]; exact (t3 k hk).1, by rw [e0 _ _ (by omega)]; exact (t3 k hk).2⟩, fun g hg f hf => by rw [e0 _ _ (by omega)]; exact t4 g hg f hf⟩ (by rw [nu_sI, if_pos ⟨rfl, rfl⟩]) (by decide) (fun g hg => by simp [bM])
  rw [v1, nu_in (by decide) (by decide), nu_g, nu_g, nu_let, nu_cl (n := 0) (by omega), v2.1, nI_add]
  refine ⟨_, rfl, ⟨by rw [nu_sI, if_pos ⟨rfl, rfl⟩], by rw [nu_sI, if_neg (by omega)]; exact v2.2.1, by rw [nu_sI, if_neg (by omega)]; exact v2.2.2.1, fun k hk => ⟨by rw [nu_sI, if_neg (by omega)]; exact (v2.2.2.2.1 k hk).1, ?_⟩, fun g hg f hf => ?_⟩, ?_⟩
  · rw [nu_sI, if_neg (by omega), (v2.2.2.2.1 k hk).2]; unfold jM; rw [if_pos hk]
  · have e : pM np ng dy kd jy pr np g = tPn np ng dy kd jy pr g := by unfold pM; rw [if_pos (h5 g hg).2]
    have := v2.2.2.2.2 g hg
    rw [e] at this
    rw [nu_sI, if_neg (by omega)]; exact this f hf
  · exact fEq.tr (S1 := sTown) (fEq.tr (S1 := sTown) (S2 := sTown) (fEq.set (Or.inr ⟨rfl, rfl⟩)) v3 (fun _ _ h => h) (fun _ _ h => h)) (fEq.set (S := sTown) (Or.inl rfl)) (fun _ _ h => h) (fun _ _ h => h)
/-- n days: the joys and the presents behind them -/
def tDays (np ng : Nat) (kd : Nat → Nat) : Nat → Nat × (Nat → Nat) × (Nat → Nat → Nat) → Nat × (Nat → Nat) × (Nat → Nat → Nat)
  | 0, q => q
  | n + 1, q => tDays np ng kd n (q.1 + 1, tJn np ng q.1 kd q.2.1 q.2.2, tPn np ng q.1 kd q.2.1 q.2.2)
theorem tDays_ok {np ng : Nat} {kd : Nat → Nat} : ∀ (n : Nat) (q : Nat × (Nat → Nat) × (Nat → Nat → Nat)), tOk q.1 np ng kd q.2.1 q.2.2 → q.1 + n < 2 ^ 20 → tOk (tDays np ng kd n q).1 np ng kd (tDays np ng kd n q).2.1 (tDays np ng kd n q).2.2 ∧ (tDays np ng kd n q).1 = q.1 + n
  | 0, q, h, _ => ⟨h, rfl⟩
  | n + 1, q, h, hn => by
    rw [tDays]
    have := tDays_ok n (q.1 + 1, tJn np ng q.1 kd q.2.1 q.2.2, tPn np ng q.1 kd q.2.1 q.2.2) (tDay_ok h (by omega)) (by dsimp only; omega)
    refine ⟨this.1, ?_⟩
    rw [this.2]
    dsimp only
    omega
theorem tDays_add {np ng : Nat} {kd : Nat → Nat} : ∀ (n : Nat) (q : Nat × (Nat → Nat) × (Nat → Nat → Nat)), tDays np ng kd (n + 1) q = ((tDays np ng kd n q).1 + 1, tJn np ng (tDays np ng kd n q).1 kd (tDays np ng kd n q).2.1 (tDays np ng kd n q).2.2, tPn np ng (tDays np ng kd n q).1 kd (tDays np ng kd n q).2.1 (tDays np ng kd n q).2.2)
  | 0, q => rfl
  | n + 1, q => by
    rw [tDays, tDays_add n]
    rfl
theorem em_goesLoop (kc : Int32 → Int32 → fm_M → Option (Unit × fm_M)) {np ng N : Nat} {kd : Nat → Nat} (hN : N < 2 ^ 10) : ∀ (m fuel i : Nat) (σ : fm_M) (q : Nat × (Nat → Nat) × (Nat → Nat → Nat)), m < fuel → i + m = N → tOk q.1 np ng kd q.2.1 q.2.2 → q.1 + m < 2 ^ 20 → mTown σ 97 q.1 np ng kd q.2.1 q.2.2 → ∃ σ', m_X12_goes_2 kc fuel (nI N) (nI i) σ = kc (nI N) (nI N) σ' ∧ mTown σ' 97 (tDays np ng kd m q).1 np ng kd (tDays np ng kd m q).2.1 (tDays np ng kd m q).2.2 ∧ fEq sTown σ σ' := by
  intro m
  induction m with
  | zero =>
    intro fuel i σ q hf hi hok hd ht
    obtain ⟨n, rfl⟩ : ∃ n, fuel = n + 1 := ⟨fuel - 1, by omega⟩
    refine ⟨σ, ?_, ht, fEq.rf⟩
    rw [m_X12_goes_2, if_pos (by rw [nu_le (by omega) (by omega)]; omega), show i = N by omega]
  | succ m ih =>
    intro fuel i σ q hf hi hok hd ht
    obtain ⟨n, rfl⟩ : ∃ n, fuel = n + 1 := ⟨fuel - 1, by omega⟩
    obtain ⟨σ1, u1, u2, u3⟩ := em_day hok ht
    obtain ⟨σ', v1, v2, v3⟩ := ih n (i + 1) σ1 (q.1 + 1, tJn np ng q.1 kd q.2.1 q.2.2, tPn np ng q.1 kd q.2.1 q.2.2) (by omega) (by omega) (tDay_ok hok (by omega)) (by dsimp only; omega) u2
    refine ⟨σ', ?_, v2, fEq.tr u3 v3 (fun _ _ h => h) (fun _ _ h => h)⟩
    rw [m_X12_goes_2, if_neg (by rw [nu_le (by omega) (by omega)]; omega), u1, nu_b]
    simp only [nu_lit, nI_add]
    exact v1
theorem em_goes {σ : fm_M} {np ng N : Nat} {kd : Nat → Nat} {q : Nat × (Nat → Nat) × (Nat → Nat → Nat)} (hN : N < 2 ^ 10) (hok : tOk q.1 np ng kd q.2.1 q.2.2) (hd : q.1 + N < 2 ^ 20) (ht : mTown σ 97 q.1 np ng kd q.2.1 q.2.2) : ∃ σ', m_X12_goes (nI N) σ = some ((), σ') ∧ mTown σ' 97 (tDays np ng kd N q).1 np ng kd (tDays np ng kd N q).2.1 (tDays np ng kd N q).2.2 ∧ fEq sTown σ σ' := by
  unfold m_X12_goes
  simp only [nu_lit]
  obtain ⟨σ', v1, v2, v3⟩ := em_goesLoop (fun (x1_y4 : Int32) (x2_y4 : Int32) (σ_y4 : fm_M) => some ((), σ_y4)) hN N fm_fu 0 σ q (by have := nu_fu; omega) (by omega) hok hd ht
  exact ⟨σ', v1, v2, v3⟩
