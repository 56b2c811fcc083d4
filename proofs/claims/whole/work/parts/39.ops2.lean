theorem nI10f : (nI 1 = nI 0) = False := eq_false nI10
-- sets as numbers
def bset (p : Nat → Bool) : Nat → Nat
  | 0 => 0
  | n + 1 => if p n then bset p n ||| 2 ^ n else bset p n
theorem bset_bit (p : Nat → Bool) (i : Nat) : ∀ n, (bset p n).testBit i = (decide (i < n) && p i)
  | 0 => by simp [bset]
  | n + 1 => by
    rw [bset]
    have ih := bset_bit p i n
    by_cases h : p n = true
    · rw [if_pos h, bt_or, ih]
      by_cases e : n = i
      · subst e; simp [h]
      · have : decide (n = i) = false := by simp [e]
        rw [this, Bool.or_false]
        by_cases e2 : i < n
        · simp [e2, show i < n + 1 by omega]
        · simp [e2, show ¬ i < n + 1 by omega]
    · rw [if_neg h, ih]
      by_cases e : n = i
      · subst e; simp [h]
      · by_cases e2 : i < n
        · simp [e2, show i < n + 1 by omega]
        · simp [e2, show ¬ i < n + 1 by omega]
theorem bset_lt (p : Nat → Bool) : ∀ n, n ≤ 8 → bset p n < 256
  | 0, _ => by show (0 : Nat) < 256; decide
  | n + 1, h => by
    have ih := bset_lt p n (by omega)
    rw [bset]
    split
    · exact (bt_set _ ih n (by omega)).2
    · exact ih
theorem bset_cong {p q : Nat → Bool} : ∀ {n : Nat}, (∀ i, i < n → p i = q i) → bset p n = bset q n
  | 0, _ => rfl
  | n + 1, h => by rw [bset, bset, h n (by omega), bset_cong (fun i hi => h i (by omega))]
theorem bt_or0 : ∀ m, m < 256 → nI m ||| nI 0 = nI m := by decide +kernel
theorem bt_fsh : ∀ p, p < 8 → nI 0 <<< (nI p &&& nI 31) = nI 0 := by decide +kernel
theorem bt_msk : ∀ n, n ≤ 8 → ∀ o, o < 256 → ((nI 1 <<< (nI n &&& nI 31)) - nI 1) &&& (nI o ^^^ -nI 1) = nI ((2 ^ n - 1) &&& (255 ^^^ o)) := by decide +kernel
theorem bt_and (a b : Nat) : nI a &&& nI b = nI (a &&& b) := by
  apply Int32.toBitVec_inj.mp
  show BitVec.ofNat 32 a &&& BitVec.ofNat 32 b = BitVec.ofNat 32 (a &&& b)
  exact BitVec.ofNat_and.symm
-- the class's sets
theorem ex_withLoop (kc : Nat → Int32 → Int32 → Int32 → fm_M → Option (Int32 × fm_M)) {σ : fm_M} {b dy np ng k : Nat} {kd jy : Nat → Nat} {pr : Nat → Nat → Nat} (ho : tOk dy np ng kd jy pr) (ht : xTown σ b dy np ng kd jy pr) (hk : k < 6) : ∀ (m fuel g : Nat), m < fuel → g + m = ng → m_X10_giftsWith_4 kc fuel b (nI k) (nI (bset (fun i => decide (pr i 2 = k)) g)) (nI g) σ = kc b (nI k) (nI (bset (fun i => decide (pr i 2 = k)) ng)) (nI ng) σ := by
  obtain ⟨o1, o2, -, -, o5⟩ := ho
  intro m
  induction m with
  | zero =>
    intro fuel g hf hg
    obtain ⟨n, rfl⟩ : ∃ n, fuel = n + 1 := ⟨fuel - 1, by omega⟩
    have e : g = ng := by omega
    subst e
    rw [m_X10_giftsWith_4, ht.2.2.1, if_pos (by rw [nu_le (by omega) (by omega)]; omega)]
  | succ m ih =>
    intro fuel g hf hg
    obtain ⟨n, rfl⟩ : ∃ n, fuel = n + 1 := ⟨fuel - 1, by omega⟩
    have w2 : σ.1 (b + 9 + 2 * g) 3 = nI (pr g 2) := (ht.2.2.2.2 g (by omega)).1 2 (by omega)
    have r2 := (o5 g (by omega)).2
    have nx := ih n (g + 1) (by omega) (by omega)
    rw [m_X10_giftsWith_4, ht.2.2.1, if_neg (by rw [nu_le (by omega) (by omega)]; omega), nu_in (by omega) (by decide), nu_g, nu_cl (by omega), w2]
    simp only [nu_lit, nI_add, nu_eq (show pr g 2 < 2 ^ 30 by omega) (show k < 2 ^ 30 by omega)]
    rw [bset] at nx
    by_cases z : pr g 2 = k
    · rw [if_pos z, (bt_set _ (bset_lt _ g (by omega)) g (by omega)).1]
      rw [if_pos (by simpa using z)] at nx
      exact nx
    · rw [if_neg z]
      rw [if_neg (by simpa using z)] at nx
      exact nx
theorem ex_giftsWith {σ : fm_M} {b dy np ng k : Nat} {kd jy : Nat → Nat} {pr : Nat → Nat → Nat} (ho : tOk dy np ng kd jy pr) (ht : xTown σ b dy np ng kd jy pr) (hk : k < 6) : m_X10_giftsWith b (nI k) σ = some (nI (bset (fun i => decide (pr i 2 = k)) ng), σ) := by
  have o2 := ho.2.1
  unfold m_X10_giftsWith
  simp only [nu_lit]
  exact ex_withLoop _ ho ht hk ng fm_fu 0 (by have := nu_fu; omega) (by omega)
theorem ex_openedLoop (kc : Nat → Int32 → Int32 → fm_M → Option (Int32 × fm_M)) {σ : fm_M} {b dy np ng : Nat} {kd jy : Nat → Nat} {pr : Nat → Nat → Nat} (ho : tOk dy np ng kd jy pr) (ht : xTown σ b dy np ng kd jy pr) : ∀ (m fuel g : Nat), m < fuel → g + m = ng → m_X10_opened_4 kc fuel b (nI (bset (fun i => decide (pr i 3 = 1)) g)) (nI g) σ = kc b (nI (bset (fun i => decide (pr i 3 = 1)) ng)) (nI ng) σ := by
  obtain ⟨o1, o2, -, -, o5⟩ := ho
  intro m
  induction m with
  | zero =>
    intro fuel g hf hg
    obtain ⟨n, rfl⟩ : ∃ n, fuel = n + 1 := ⟨fuel - 1, by omega⟩
    have e : g = ng := by omega
    subst e
    rw [m_X10_opened_4, ht.2.2.1, if_pos (by rw [nu_le (by omega) (by omega)]; omega)]
  | succ m ih =>
    intro fuel g hf hg
    obtain ⟨n, rfl⟩ : ∃ n, fuel = n + 1 := ⟨fuel - 1, by omega⟩
    have w3 : σ.1 (b + 9 + 2 * g) 4 = nI (pr g 3) := (ht.2.2.2.2 g (by omega)).1 3 (by omega)
    have r3 := (o5 g (by omega)).1.2.2.1
    have nx := ih n (g + 1) (by omega) (by omega)
    rw [m_X10_opened_4, ht.2.2.1, if_neg (by rw [nu_le (by omega) (by omega)]; omega), nu_in (by omega) (by decide), nu_g, nu_cl (by omega), w3]
    simp only [nu_lit, nI_add, nu_eq (show pr g 3 < 2 ^ 30 by omega) (show 0 < 2 ^ 30 by decide)]
    rw [bset] at nx
    by_cases z : pr g 3 = 0
    · rw [if_pos z]
      rw [if_neg (by simp; omega)] at nx
      exact nx
    · rw [if_neg z, (bt_set _ (bset_lt _ g (by omega)) g (by omega)).1]
      rw [if_pos (by simp; omega)] at nx
      exact nx
theorem ex_opened {σ : fm_M} {b dy np ng : Nat} {kd jy : Nat → Nat} {pr : Nat → Nat → Nat} (ho : tOk dy np ng kd jy pr) (ht : xTown σ b dy np ng kd jy pr) : m_X10_opened b σ = some (nI (bset (fun i => decide (pr i 3 = 1)) ng), σ) := by
  have o2 := ho.2.1
  unfold m_X10_opened
  simp only [nu_lit]
  exact ex_openedLoop _ ho ht ng fm_fu 0 (by have := nu_fu; omega) (by omega)
/-- the set of those that aren't found -/
def unf (ng : Nat) (pr : Nat → Nat → Nat) : Nat := (2 ^ ng - 1) &&& (255 ^^^ bset (fun i => decide (pr i 3 = 1)) ng)
theorem ex_unopened {σ : fm_M} {b dy np ng : Nat} {kd jy : Nat → Nat} {pr : Nat → Nat → Nat} (ho : tOk dy np ng kd jy pr) (ht : xTown σ b dy np ng kd jy pr) : m_X10_unopened b σ = some (nI (unf ng pr), σ) := by
  have o2 := ho.2.1
  unfold m_X10_unopened
  rw [ex_opened ho ht, nu_b, ht.2.2.1]
  simp only [nu_lit]
  rw [bt_msk ng o2 _ (bset_lt _ _ o2)]
  rfl
-- the reference's sets
theorem em_withLoop (kc : Int32 → Int32 → Int32 → Int32 → fm_M → Option (Int32 × fm_M)) {σ : fm_M} {dy np ng k : Nat} {kd jy : Nat → Nat} {pr : Nat → Nat → Nat} (hid : Bool) (ho : tOk dy np ng kd jy pr) (ht : mTown σ 97 dy np ng kd jy pr) (hk : k < 6) : ∀ (m fuel g : Nat), m < fuel → g + m = ng → m_X12_presentsWith_5 kc fuel (nI k) (if hid then nI 1 else nI 0) (nI (bset (fun i => decide (pr i 2 = k) && (!hid || decide (pr i 3 = 0))) g)) (nI g) σ = kc (nI k) (if hid then nI 1 else nI 0) (nI (bset (fun i => decide (pr i 2 = k) && (!hid || decide (pr i 3 = 0))) ng)) (nI ng) σ := by
  obtain ⟨o1, o2, -, -, o5⟩ := ho
  intro m
  induction m with
  | zero =>
    intro fuel g hf hg
    obtain ⟨n, rfl⟩ : ∃ n, fuel = n + 1 := ⟨fuel - 1, by omega⟩
    have e : g = ng := by omega
    subst e
    rw [m_X12_presentsWith_5]
    simp only [nu_lit]
    rw [nu_in (by decide) (by decide), nu_g, nu_cl (n := 2) (by omega), ht.2.2.1, if_pos (by rw [nu_le (by omega) (by omega)]; omega)]
  | succ m ih =>
    intro fuel g hf hg
    obtain ⟨n, rfl⟩ : ∃ n, fuel = n + 1 := ⟨fuel - 1, by omega⟩
    have w2 : σ.1 97 (16 + 10 * g + 2) = nI (pr g 2) := ht.2.2.2.2 g (by omega) 2 (by omega)
    have w3 : σ.1 97 (16 + 10 * g + 3) = nI (pr g 3) := ht.2.2.2.2 g (by omega) 3 (by omega)
    have r2 := (o5 g (by omega)).2
    have r3 := (o5 g (by omega)).1.2.2.1
    have nx := ih n (g + 1) (by omega) (by omega)
    have bl := bset_lt (fun i => decide (pr i 2 = k) && (!hid || decide (pr i 3 = 0))) g (by omega)
    rw [m_X12_presentsWith_5]
    simp only [nu_lit, nI_add]
    rw [nu_in (by decide) (by decide), nu_g, nu_cl (n := 2) (by omega), ht.2.2.1, if_neg (by rw [nu_le (by omega) (by omega)]; omega), em_of1 σ (by omega), nu_b, w2]
    simp only [nu_eq (show pr g 2 < 2 ^ 30 by omega) (show k < 2 ^ 30 by omega)]
    rw [bset] at nx
    by_cases z : pr g 2 = k
    · rw [if_pos z]
      cases hid with
      | false =>
        simp only [Bool.false_eq_true, if_false] at nx ⊢
        rw [if_pos trivial, (bt_set _ bl g (by omega)).1]
        rw [if_pos (by simp [z])] at nx
        exact nx
      | true =>
        simp only [if_true] at nx ⊢
        rw [if_neg nI10, em_of1 σ (by omega), nu_b, w3]
        simp only [nu_eq (show pr g 3 < 2 ^ 30 by omega) (show 0 < 2 ^ 30 by decide)]
        by_cases z3 : pr g 3 = 0
        · rw [if_pos z3, (bt_set _ bl g (by omega)).1]
          rw [if_pos (by simp [z, z3])] at nx
          exact nx
        · rw [if_neg z3, bt_or0 _ bl]
          rw [if_neg (by simp [z3])] at nx
          exact nx
    · rw [if_neg z, bt_or0 _ bl]
      rw [if_neg (show ¬ ((decide (pr g 2 = k) && (!hid || decide (pr g 3 = 0))) = true) by simp [z])] at nx
      exact nx
theorem em_presentsWith {σ : fm_M} {dy np ng k : Nat} {kd jy : Nat → Nat} {pr : Nat → Nat → Nat} (hid : Bool) (ho : tOk dy np ng kd jy pr) (ht : mTown σ 97 dy np ng kd jy pr) (hk : k < 6) : m_X12_presentsWith (nI k) (if hid then nI 1 else nI 0) σ = some (nI (bset (fun i => decide (pr i 2 = k) && (!hid || decide (pr i 3 = 0))) ng), σ) := by
  have o2 := ho.2.1
  unfold m_X12_presentsWith
  simp only [nu_lit]
  exact em_withLoop _ hid ho ht hk ng fm_fu 0 (by have := nu_fu; omega) (by omega)
theorem em_foundLoop (kc : Int32 → Int32 → fm_M → Option (Int32 × fm_M)) {σ : fm_M} {dy np ng : Nat} {kd jy : Nat → Nat} {pr : Nat → Nat → Nat} (ho : tOk dy np ng kd jy pr) (ht : mTown σ 97 dy np ng kd jy pr) : ∀ (m fuel g : Nat), m < fuel → g + m = ng → m_X12_foundOnes_4 kc fuel (nI (bset (fun i => decide (pr i 3 = 1)) g)) (nI g) σ = kc (nI (bset (fun i => decide (pr i 3 = 1)) ng)) (nI ng) σ := by
  obtain ⟨o1, o2, -, -, o5⟩ := ho
  intro m
  induction m with
  | zero =>
    intro fuel g hf hg
    obtain ⟨n, rfl⟩ : ∃ n, fuel = n + 1 := ⟨fuel - 1, by omega⟩
    have e : g = ng := by omega
    subst e
    rw [m_X12_foundOnes_4]
    simp only [nu_lit]
    rw [nu_in (by decide) (by decide), nu_g, nu_cl (n := 2) (by omega), ht.2.2.1, if_pos (by rw [nu_le (by omega) (by omega)]; omega)]
  | succ m ih =>
    intro fuel g hf hg
    obtain ⟨n, rfl⟩ : ∃ n, fuel = n + 1 := ⟨fuel - 1, by omega⟩
    have w3 : σ.1 97 (16 + 10 * g + 3) = nI (pr g 3) := ht.2.2.2.2 g (by omega) 3 (by omega)
    have r3 := (o5 g (by omega)).1.2.2.1
    have nx := ih n (g + 1) (by omega) (by omega)
    have bl := bset_lt (fun i => decide (pr i 3 = 1)) g (by omega)
    rw [m_X12_foundOnes_4]
    simp only [nu_lit, nI_add]
    rw [nu_in (by decide) (by decide), nu_g, nu_cl (n := 2) (by omega), ht.2.2.1, if_neg (by rw [nu_le (by omega) (by omega)]; omega), em_of1 σ (by omega), nu_b, w3]
    rw [bset] at nx
    by_cases z : pr g 3 = 1
    · rw [z, (bt_set _ bl g (by omega)).1]
      rw [if_pos (by simp [z])] at nx
      exact nx
    · rw [show pr g 3 = 0 by omega, bt_fsh g (by omega), bt_or0 _ bl]
      rw [if_neg (by simp [z])] at nx
      exact nx
theorem em_foundOnes {σ : fm_M} {dy np ng : Nat} {kd jy : Nat → Nat} {pr : Nat → Nat → Nat} (ho : tOk dy np ng kd jy pr) (ht : mTown σ 97 dy np ng kd jy pr) : m_X12_foundOnes σ = some (nI (bset (fun i => decide (pr i 3 = 1)) ng), σ) := by
  have o2 := ho.2.1
  unfold m_X12_foundOnes
  simp only [nu_lit]
  exact em_foundLoop _ ho ht ng fm_fu 0 (by have := nu_fu; omega) (by omega)
theorem m255 : ∀ i, i < 8 → (255 : Nat).testBit i = true := by decide
theorem unf_eq {ng k : Nat} {pr : Nat → Nat → Nat} (h8 : ng ≤ 8) (h3 : ∀ g, g < ng → pr g 3 ≤ 1) : bset (fun i => decide (pr i 2 = k)) ng &&& unf ng pr = bset (fun i => decide (pr i 2 = k) && (!true || decide (pr i 3 = 0))) ng := by
  apply Nat.eq_of_testBit_eq
  intro i
  unfold unf
  rw [Nat.testBit_and, bset_bit, Nat.testBit_and, Nat.testBit_two_pow_sub_one, Nat.testBit_xor, bset_bit, bset_bit]
  by_cases z : i < ng
  · have := h3 i z
    rw [m255 i (by omega)]
    by_cases e : pr i 3 = 0
    · simp [z, e]
    · have e1 : pr i 3 = 1 := by omega
      simp [z, e1]
  · simp [z]
theorem op_of (x v : Int32) {σ : fm_M} (h : Inv σ) : opS (m_X11_of x v) (m_X12_of x v) σ := by
  obtain ⟨hR, dy, np, ng, kd, jy, pr, k1, k2, k3, k4⟩ := id h
  have o1 := k1.1
  rcases nu_ix x (n := np) (by omega) with ⟨j, hj, rfl⟩ | hx
  · rcases nu_ix v (n := 4) (by decide) with ⟨w, hw, rfl⟩ | hv
    · have hw4 : w = 0 ∨ w = 1 ∨ w = 2 ∨ w = 3 := by omega
      rcases hw4 with rfl | rfl | rfl | rfl
      · refine stp_ask (nI (kd j)) h ?_ ?_
        · unfold m_X11_of
          simp only [nu_lit]
          rw [ex_isPersonT k3.2.1 o1 hj, nu_b, if_neg nI10, if_pos trivial, nu_in (by omega) (by decide), nu_g, nu_cl (by omega), (k3.2.2.2.1 j hj).1]
        · unfold m_X12_of
          simp only [nu_lit]
          rw [em_isPersonT k4.2.1 o1 hj, nu_b, if_neg nI10, em_in1T _ (by omega) (by omega) (by decide), nu_b, if_neg nI10, if_neg (by decide), em_get _ (by omega), nu_b, show 4 + 2 * j + 0 = 4 + 2 * j by omega, (k4.2.2.2.1 j hj).1]
      · refine stp_ask (nI (jy j)) h ?_ ?_
        · unfold m_X11_of
          simp only [nu_lit]
          rw [ex_isPersonT k3.2.1 o1 hj, nu_b, if_neg nI10, if_neg nI10, if_pos trivial, nu_in (by omega) (by decide), nu_g, nu_cl (by omega), (k3.2.2.2.1 j hj).2]
        · unfold m_X12_of
          simp only [nu_lit]
          rw [em_isPersonT k4.2.1 o1 hj, nu_b, if_neg nI10, em_in1T _ (by omega) (by omega) (by decide), nu_b, if_neg nI10, if_neg (by decide), em_get _ (by omega), nu_b, show 4 + 2 * j + 1 = 5 + 2 * j by omega, (k4.2.2.2.1 j hj).2]
      · refine stp_ask (nI (bset (fun i => decide (pr i 2 = j) && (!false || decide (pr i 3 = 0))) ng)) h ?_ ?_
        · unfold m_X11_of
          simp only [nu_lit]
          rw [ex_isPersonT k3.2.1 o1 hj, nu_b, if_neg nI10, if_neg (by decide), if_neg (by decide), if_pos trivial, ex_giftsWith k1 k3 (by omega), nu_b]
          simp
        · unfold m_X12_of
          simp only [nu_lit, nu_j]
          have e := em_presentsWith false k1 k4 (show j < 6 by omega)
          simp only [Bool.false_eq_true, if_false] at e
          rw [em_isPersonT k4.2.1 o1 hj, nu_b, if_neg nI10, em_in1T _ (by omega) (by omega) (by decide), nu_b, if_neg nI10, if_pos (by decide), if_neg (by decide), e, nu_b]
      · refine stp_ask (nI (bset (fun i => decide (pr i 2 = j) && (!true || decide (pr i 3 = 0))) ng)) h ?_ ?_
        · unfold m_X11_of
          simp only [nu_lit]
          rw [ex_isPersonT k3.2.1 o1 hj, nu_b, if_neg nI10, if_neg (by decide), if_neg (by decide), if_neg (by decide), if_pos trivial, ex_giftsWith k1 k3 (by omega), nu_b, ex_unopened k1 k3, nu_b, bt_and, unf_eq k1.2.1 (fun g hg => (k1.2.2.2.2 g hg).1.2.2.1)]
        · unfold m_X12_of
          simp only [nu_lit, nu_j]
          have e := em_presentsWith true k1 k4 (show j < 6 by omega)
          simp only [if_true] at e
          rw [em_isPersonT k4.2.1 o1 hj, nu_b, if_neg nI10, em_in1T _ (by omega) (by omega) (by decide), nu_b, if_neg nI10, if_pos (by decide), if_pos trivial, e, nu_b]
    · have hne : ∀ w, w < 4 → ¬ v = nI w := by
        intro w hw e
        subst e
        rcases hv with z | z
        · exact nI_pos (by omega) z
        · rw [nu_le (by decide) (by omega)] at z; omega
      refine stp_find 0 (by decide) h ?_ (fun σ1 hs => ?_)
      · unfold m_X11_of
        simp only [nu_lit, fnd0]
        rw [ex_isPersonT k3.2.1 o1 hj, nu_b, if_neg nI10, if_neg (hne 0 (by decide)), if_neg (hne 1 (by decide)), if_neg (hne 2 (by decide)), if_neg (hne 3 (by decide))]
      · have m1 := k4.keep (fun k => hs 97 k (by omega))
        unfold m_X12_of
        simp only [nu_lit]
        rw [em_isPersonT m1.2.1 o1 hj, nu_b, if_neg nI10, em_wF hv (by decide), nu_b, if_pos rfl]
  · refine stp_find 0 (by decide) h ?_ (fun σ1 hs => ?_)
    · unfold m_X11_of
      simp only [nu_lit, fnd0]
      rw [ex_isPersonF k3.2.1 o1 hx, nu_b, if_pos rfl]
    · have m1 := k4.keep (fun k => hs 97 k (by omega))
      unfold m_X12_of
      simp only [nu_lit]
      rw [em_isPersonF m1.2.1 o1 hx, nu_b, if_pos rfl]
