/-! THE CLASS'S WAY -/
def xRec (σ : fm_M) (a : Nat) (x : Nat → Nat) : Prop := (∀ f, f < 4 → σ.1 a (f + 1) = nI (x f)) ∧ ∀ i, i < x 0 → σ.1 (a + 1) (x 0 - 1 - i) = nI (x (4 + i))
def sA (a : Nat) : Nat → Nat → Prop := fun c _ => c = a ∨ c = a + 1
theorem xRec.n {σ : fm_M} {a : Nat} {x : Nat → Nat} (h : xRec σ a x) : σ.1 a 1 = nI (x 0) := h.1 0 (by omega)
theorem xRec.out {σ σ' : fm_M} {a : Nat} {x : Nat → Nat} (h : xRec σ a x) (h1 : ∀ k, σ'.1 a k = σ.1 a k) (h2 : ∀ k, σ'.1 (a + 1) k = σ.1 (a + 1) k) : xRec σ' a x := ⟨fun f hf => by rw [h1]; exact h.1 f hf, fun i hi => by rw [h2]; exact h.2 i hi⟩
theorem ex_paperAt {σ : fm_M} {a i : Nat} {x : Nat → Nat} (hx : xRec σ a x) (h6 : x 0 ≤ 6) (hi : i < x 0) : m_X7_paperAt a (nI i) σ = some (nI (x (4 + i)), σ) := by
  unfold m_X7_paperAt
  rw [hx.n]
  simp only [nu_lit]
  rw [if_neg (show ¬ nI i < nI 0 from nI_pos (by omega)), if_neg (by rw [nu_le (by omega) (by omega)]; omega), nu_sub (by omega), nu_sub (by omega), nu_in (by omega) (by decide), nu_g, nu_cl (by omega), hx.2 i hi]
theorem ex_outermost {σ : fm_M} {a : Nat} {x : Nat → Nat} (hx : xRec σ a x) (h6 : x 0 ≤ 6) (h0 : 0 < x 0) : m_X7_outermost a σ = some (nI (x 4), σ) := by
  unfold m_X7_outermost
  simp only [nu_lit]
  rw [ex_paperAt hx h6 h0, nu_b]
theorem ex_takeOff {σ : fm_M} {a : Nat} {x : Nat → Nat} (hx : xRec σ a x) (h6 : x 0 ≤ 6) (h0 : 0 < x 0) : ∃ σ', m_X7_takeOff a σ = some (nI (x 4), σ') ∧ xRec σ' a (rPop x) ∧ fEq (sA a) σ σ' := by
  unfold m_X7_takeOff
  rw [ex_outermost hx h6 h0, nu_b, hx.n]
  simp only [nu_lit]
  rw [if_neg (show ¬ nI (x 0) ≤ nI 0 from nI_nle (by omega) (by omega)), nu_sub (by omega), nu_let]
  refine ⟨_, rfl, ⟨fun f hf => ?_, fun i hi => ?_⟩, fEq.set (Or.inl rfl)⟩
  · rw [nu_sI]
    by_cases f0 : f = 0
    · subst f0; rw [if_pos ⟨rfl, rfl⟩]; simp [rPop]
    · rw [if_neg (by omega), hx.1 f hf]; simp [rPop, f0, hf]
  · have hi : i < x 0 - 1 := by simpa [rPop] using hi
    rw [nu_sI, if_neg (by omega)]
    have h1 : rPop x 0 = x 0 - 1 := by simp [rPop]
    have h2 : rPop x (4 + i) = x (4 + (i + 1)) := by
      unfold rPop
      rw [if_neg (by omega), if_neg (by omega)]
      rfl
    rw [h1, h2, show x 0 - 1 - 1 - i = x 0 - 1 - (i + 1) by omega]
    exact hx.2 (i + 1) (by omega)
theorem ex_layAbout {σ : fm_M} {a q : Nat} {x : Nat → Nat} (hx : xRec σ a x) (h6 : x 0 < 6) : ∃ σ', m_X7_layAbout a (nI q) σ = some ((), σ') ∧ xRec σ' a (rPush q x) ∧ fEq (sA a) σ σ' := by
  unfold m_X7_layAbout
  rw [hx.n]
  simp only [nu_lit]
  rw [if_neg (by rw [nu_le (by decide) (by omega)]; omega), nu_in h6 (by decide), nu_g, nu_let, nu_cl (by omega), nu_let]
  have e1 : (fm_sI σ (a + 1) (x 0) (nI q)).1 a 1 = nI (x 0) := by rw [nu_sI, if_neg (by omega)]; exact hx.n
  rw [e1, nI_add]
  refine ⟨_, rfl, ⟨fun f hf => ?_, fun i hi => ?_⟩, fEq.tr (S1 := sA a) (fEq.set (S := sA a) (Or.inr rfl)) (fEq.set (S := sA a) (Or.inl rfl)) (fun _ _ h => h) (fun _ _ h => h)⟩
  · rw [nu_sI]
    by_cases f0 : f = 0
    · subst f0; rw [if_pos ⟨rfl, rfl⟩]; simp [rPush]
    · rw [if_neg (by omega), nu_sI, if_neg (by omega), hx.1 f hf]; simp [rPush, f0, hf]
  · have hi : i < x 0 + 1 := by simpa [rPush] using hi
    have h1 : rPush q x 0 = x 0 + 1 := by simp [rPush]
    rw [nu_sI, if_neg (by omega), nu_sI, h1]
    by_cases e : i = 0
    · subst e; rw [if_pos ⟨rfl, by omega⟩]; simp [rPush]
    · have h2 : rPush q x (4 + i) = x (4 + (i - 1)) := by
        unfold rPush
        rw [if_neg (by omega), if_neg (by omega), if_neg (by omega), show 4 + i - 1 = 4 + (i - 1) by omega]
      rw [if_neg (by omega), h2, show x 0 + 1 - 1 - i = x 0 - 1 - (i - 1) by omega]
      exact hx.2 (i - 1) (by omega)
theorem ex_layFull {σ : fm_M} {a : Nat} {q : Int32} {x : Nat → Nat} (hx : xRec σ a x) (h6 : 6 ≤ x 0) (h7 : x 0 < 100) : m_X7_layAbout a q σ = some ((), σ) := by
  unfold m_X7_layAbout
  rw [hx.n]
  simp only [nu_lit]
  rw [if_pos (by rw [nu_le (by decide) (by omega)]; omega)]
theorem ex_pleaseBy {σ : fm_M} {c j v : Nat} (hj : σ.1 c 1 = nI j) (hj2 : j ≤ 9999) (hv : v < 2 ^ 20) : m_X5_pleaseBy c (nI v) σ = some ((), fm_sI σ c 1 (nI (min 9999 (j + v)))) := by
  unfold m_X5_pleaseBy
  rw [hj]
  simp only [nu_lit, nI_add, nu_lt (show j + v < 2 ^ 30 by omega) (show 9999 < 2 ^ 30 by decide)]
  rw [nu_let]
  by_cases h : j + v < 9999
  · rw [if_pos h, Nat.min_eq_right (by omega)]
  · rw [if_neg h, Nat.min_eq_left (by omega)]
theorem ek_cases {kd : Nat} (h : kd < 6) : kd = 0 ∨ kd = 1 ∨ kd = 2 ∨ kd = 3 ∨ kd = 4 ∨ kd = 5 := by omega
theorem ex_enjoys {σ : fm_M} {kd p : Nat} (h6 : kd < 6) (hp : p < 4) : mv_enjoys (2 + kd) (nI p) σ = some (nI (kEnjoys kd p), σ) := by
  rcases ek_cases h6 with rfl | rfl | rfl | rfl | rfl | rfl
  · show m_X4_enjoys 2 (nI p) σ = _
    unfold m_X4_enjoys; simp only [nu_lit, nI_add]; rfl
  · show m_X0_enjoys 3 (nI p) σ = _
    unfold m_X0_enjoys m_X4_enjoys; simp only [nu_lit, nI_add, nu_b, pk_mul]
    unfold kEnjoys; simp; rw [Nat.mul_add]
  · show m_X1_enjoys 4 (nI p) σ = _
    unfold m_X1_enjoys m_X4_enjoys; simp only [nu_lit, nI_add, nu_b]
    rw [nu_sub (by omega)]; rfl
  · show m_X6_enjoys 5 (nI p) σ = _
    unfold m_X6_enjoys m_X4_enjoys; simp only [nu_lit, nI_add, nu_b, nu_eq (show p < 2 ^ 30 by omega) (show 0 < 2 ^ 30 by decide)]
    unfold kEnjoys; simp; split <;> rfl
  · show m_X3_enjoys 6 (nI p) σ = _
    unfold m_X3_enjoys; simp only [nu_lit]; rfl
  · show m_X2_enjoys 7 (nI p) σ = _
    unfold m_X2_enjoys m_X0_enjoys m_X4_enjoys; simp only [nu_lit, nI_add, nu_b, pk_mul]
    rw [nu_sub (by omega)]
    unfold kEnjoys; simp; rw [Nat.mul_add]; rfl
theorem ex_isStruck {σ : fm_M} {kd t : Nat} (h6 : kd < 6) (ht : t ≤ 99) : mv_isStruck (2 + kd) (nI t) σ = some (nI (kStruck kd t), σ) := by
  rcases ek_cases h6 with rfl | rfl | rfl | rfl | rfl | rfl
  · rfl
  · show m_X0_isStruck 3 (nI t) σ = _
    unfold m_X0_isStruck; simp only [nu_lit, nu_le (show t < 2 ^ 30 by omega) (show 0 < 2 ^ 30 by decide)]
    unfold kStruck; simp
    split <;> rfl
  · show m_X1_isStruck 4 (nI t) σ = _
    unfold m_X1_isStruck m_X4_isStruck; simp only [nu_lit, nu_b, pk_mul, nu_eq (show t < 2 ^ 30 by omega) (show 0 < 2 ^ 30 by decide)]
    unfold kStruck; simp
    intro h; rw [h]
  · rfl
  · show m_X3_isStruck 6 (nI t) σ = _
    unfold m_X3_isStruck m_X1_isStruck m_X4_isStruck; simp only [nu_lit, nu_b, pk_mul, nu_eq (show t < 2 ^ 30 by omega) (show 0 < 2 ^ 30 by decide)]
    unfold kStruck; simp
    split
    · rename_i h; rw [nu_b, h]; rfl
    · rw [nu_b, nI_add]
  · show m_X2_isStruck 7 (nI t) σ = _
    unfold m_X2_isStruck m_X0_isStruck; simp only [nu_lit, nu_le (show t < 2 ^ 30 by omega) (show 0 < 2 ^ 30 by decide), nu_div (show t < 2 ^ 30 by omega) (show 0 < 2 by decide) (show 2 < 2 ^ 30 by decide)]
    unfold kStruck; simp
    split
    · rw [nu_b, nI_add]
    · rw [nu_b, nI_add, Nat.zero_add]
theorem ex_passesOn {σ : fm_M} {kd n day : Nat} (h6 : kd < 6) (hn : n ≤ 6) : mv_passesOn (2 + kd) (nI n) (nI (day % 4)) σ = some (mPass (kPass kd day n), σ) := by
  rcases ek_cases h6 with rfl | rfl | rfl | rfl | rfl | rfl
  · show m_X4_passesOn 2 (nI n) (nI (day % 4)) σ = _
    unfold m_X4_passesOn; simp only [nu_lit, nu_lt (show n < 2 ^ 30 by omega) (show 4 < 2 ^ 30 by decide)]
    unfold kPass; simp only [if_true]
    split <;> simp [mPass]
  · show m_X0_passesOn 3 (nI n) (nI (day % 4)) σ = _
    unfold m_X0_passesOn m_X4_passesOn; simp only [nu_lit, nu_lt (show n < 2 ^ 30 by omega) (show 4 < 2 ^ 30 by decide), nu_eq (show n < 2 ^ 30 by omega) (show 6 < 2 ^ 30 by decide)]
    unfold kPass; simp
    split
    · rename_i h; rw [if_neg (by omega), nu_b]; simp [mPass]
    · simp [mPass]
  · rfl
  · show m_X6_passesOn 5 (nI n) (nI (day % 4)) σ = _
    unfold m_X6_passesOn; simp only [nu_lit, nu_lt (show n < 2 ^ 30 by omega) (show 1 < 2 ^ 30 by decide), nu_lt (show 3 < 2 ^ 30 by decide) (show n < 2 ^ 30 by omega)]
    unfold kPass; simp
    by_cases z : 1 ≤ n ∧ n ≤ 3
    · rw [if_neg (by omega), if_neg (by omega), if_pos z]; rfl
    · rw [if_neg z]
      by_cases z0 : n = 0
      · rw [if_pos z0]; rfl
      · rw [if_neg z0, if_pos (by omega)]; rfl
  · rfl
  · show m_X2_passesOn 7 (nI n) (nI (day % 4)) σ = _
    unfold m_X2_passesOn; simp only [nu_lit, nu_lt (show n < 2 ^ 30 by omega) (show 2 < 2 ^ 30 by decide)]
    unfold kPass; simp
    split <;> simp [mPass]
theorem ex_opens {σ : fm_M} {kd n day p : Nat} (h6 : kd < 6) (hn : n ≤ 6) (h0 : 0 < n) (hp : p < 4) (hd : day < 2 ^ 20) : ∃ r, mv_opens (2 + kd) (nI day) (nI n) (nI p) σ = some (nI r, σ) ∧ r ≤ 6 ∧ min n r = kOpens kd day n p := by
  rcases ek_cases h6 with rfl | rfl | rfl | rfl | rfl | rfl
  · exact ⟨1, rfl, by omega, by simp [kOpens]; omega⟩
  · exact ⟨0, rfl, by omega, by simp [kOpens]⟩
  · exact ⟨2, rfl, by omega, by simp [kOpens]; omega⟩
  · by_cases z : p = 3
    · refine ⟨0, ?_, by omega, by simp [kOpens, z]⟩
      show m_X6_opens 5 (nI day) (nI n) (nI p) σ = _
      unfold m_X6_opens; rw [if_pos (by rw [z]; rfl)]; rfl
    · refine ⟨1, ?_, by omega, by simp [kOpens, z]; split <;> omega⟩
      show m_X6_opens 5 (nI day) (nI n) (nI p) σ = _
      unfold m_X6_opens; simp only [nu_lit, nu_eq (show p < 2 ^ 30 by omega) (show 3 < 2 ^ 30 by decide)]
      rw [if_neg z]; rfl
  · exact ⟨n, rfl, hn, by simp [kOpens]⟩
  · by_cases z : day % 5 = 0
    · refine ⟨1, ?_, by omega, by simp [kOpens, z]; omega⟩
      show m_X2_opens 7 (nI day) (nI n) (nI p) σ = _
      unfold m_X2_opens; simp only [nu_lit, nu_rem (show day < 2 ^ 30 by omega) (show 0 < 5 by decide) (show 5 < 2 ^ 30 by decide), nu_eq (show day % 5 < 2 ^ 30 by omega) (show 0 < 2 ^ 30 by decide)]
      rw [if_pos z]
    · refine ⟨0, ?_, by omega, by simp [kOpens, z]⟩
      show m_X2_opens 7 (nI day) (nI n) (nI p) σ = _
      unfold m_X2_opens; simp only [nu_lit, nu_rem (show day < 2 ^ 30 by omega) (show 0 < 5 by decide) (show 5 < 2 ^ 30 by decide), nu_eq (show day % 5 < 2 ^ 30 by omega) (show 0 < 2 ^ 30 by decide)]
      rw [if_neg z]; rfl
theorem ex_mannerOf {σ : fm_M} {b k kd : Nat} (hk : k < 6) (hkd : σ.1 (b + 2 + k) 0 = nI kd) (h6 : kd < 6) : m_X10_mannerOf b (nI k) σ = some (2 + kd, σ) := by
  unfold m_X10_mannerOf
  rw [nu_in hk (by decide), nu_g, nu_cl (by omega), hkd, nu_in h6 (by decide), nu_g, nu_cl (by omega)]
theorem ex_takesOff {σ : fm_M} {b a k kd day : Nat} {x : Nat → Nat} (hk : k < 6) (h6 : kd < 6) (hr : rOk x) (hx : xRec σ a x) (hkd : σ.1 (b + 2 + k) 0 = nI kd) (hd : σ.1 b 3 = nI day) (hd2 : day < 2 ^ 20) : m_X10_takesOff b (nI k) a σ = some (nI (kOpens kd day (x 0) (x 4)), σ) := by
  have h0 := hr.1
  unfold m_X10_takesOff
  rw [hx.n]
  simp only [nu_lit, nu_eq (show x 0 < 2 ^ 30 by omega) (show 0 < 2 ^ 30 by decide)]
  by_cases z : x 0 = 0
  · rw [if_pos z]
    have := kOpens_le kd day (x 0) (x 4)
    rw [show kOpens kd day (x 0) (x 4) = 0 by omega]
  · have b4 : x 4 < 4 := hr.2.2.2 0 (by omega)
    obtain ⟨r, r1, r2, r3⟩ := ex_opens (σ := σ) (p := x 4) h6 h0 (by omega) b4 hd2
    rw [if_neg z, ex_mannerOf hk hkd h6, nu_b, ex_outermost hx h0 (by omega), nu_b, hd, hx.n, r1, nu_b, hx.n, ← r3]
    simp only [nu_lt (show x 0 < 2 ^ 30 by omega) (show r < 2 ^ 30 by omega)]
    by_cases zr : x 0 < r
    · rw [if_pos zr, Nat.min_eq_left (by omega)]
    · rw [if_neg zr, Nat.min_eq_right (by omega)]
def sAJ (a c : Nat) : Nat → Nat → Prop := fun d i => sA a d i ∨ (d = c ∧ i = 1)
theorem ex_openLoop (kc : Nat → Int32 → Nat → Nat → Int32 → Int32 → fm_M → Option (Unit × fm_M)) {b a k kd N : Nat} (hk : k < 6) (h6 : kd < 6) (hne : b + 2 + k ≠ a) (hne2 : b + 2 + k ≠ a + 1) (hN : N ≤ 6) : ∀ (m fuel i : Nat) (σ : fm_M) (q : (Nat → Nat) × Nat), m < fuel → i + m = N → m ≤ q.1 0 → rOk q.1 → q.2 ≤ 9999 → xRec σ a q.1 → σ.1 (b + 2 + k) 1 = nI q.2 → ∃ σ', m_X10_openBy_17 kc fuel b (nI k) a (2 + kd) (nI N) (nI i) σ = kc b (nI k) a (2 + kd) (nI N) (nI N) σ' ∧ xRec σ' a (oneOpen kd m q).1 ∧ σ'.1 (b + 2 + k) 1 = nI (oneOpen kd m q).2 ∧ fEq (sAJ a (b + 2 + k)) σ σ' := by
  intro m
  induction m with
  | zero =>
    intro fuel i σ q hf hi hm hr hj hx hq
    obtain ⟨n, rfl⟩ : ∃ n, fuel = n + 1 := ⟨fuel - 1, by omega⟩
    refine ⟨σ, ?_, hx, hq, fEq.rf⟩
    rw [m_X10_openBy_17, if_pos (by rw [nu_le (by omega) (by omega)]; omega), show i = N by omega]
  | succ m ih =>
    intro fuel i σ q hf hi hm hr hj hx hq
    obtain ⟨n, rfl⟩ : ∃ n, fuel = n + 1 := ⟨fuel - 1, by omega⟩
    have h0 := hr.1
    have b4 : q.1 4 < 4 := hr.2.2.2 0 (by omega)
    obtain ⟨σ1, t1, t2, t3⟩ := ex_takeOff hx h0 (by omega)
    have e1 : σ1.1 (b + 2 + k) 1 = nI q.2 := by rw [t3.1 _ _ (fun z => z.elim hne hne2)]; exact hq
    have bj := kEnjoys_le (kd := kd) b4
    obtain ⟨σ', h1, h2, h3, h4⟩ := ih n (i + 1) (fm_sI σ1 (b + 2 + k) 1 (nI (min 9999 (q.2 + kEnjoys kd (q.1 4))))) (rPop q.1, min 9999 (q.2 + kEnjoys kd (q.1 4))) (by omega) (by omega) (by simp [rPop]; omega) (rPop_ok hr (by omega)) (Nat.min_le_left _ _) (t2.out (fun j => by rw [nu_sI, if_neg (fun z => hne z.1.symm)]) (fun j => by rw [nu_sI, if_neg (fun z => hne2 z.1.symm)])) (by rw [nu_sI, if_pos ⟨rfl, rfl⟩])
    refine ⟨σ', ?_, h2, h3, ?_⟩
    · rw [m_X10_openBy_17, if_neg (by rw [nu_le (by omega) (by omega)]; omega), nu_in hk (by decide), nu_g, t1, nu_b, ex_enjoys h6 b4, nu_b, nu_cl (by omega), ex_pleaseBy e1 hj (by omega), nu_b]
      simp only [nu_lit, nI_add]
      exact h1
    · exact fEq.tr (S1 := sAJ a (b + 2 + k)) (fEq.tr (S1 := sA a) (S2 := sAJ a (b + 2 + k)) t3 (fEq.set (Or.inr ⟨rfl, rfl⟩)) (fun _ _ h => Or.inl h) (fun _ _ h => h)) h4 (fun _ _ h => h) (fun _ _ h => h)
theorem ex_openBy {σ : fm_M} {b a k kd day j : Nat} {x : Nat → Nat} (hk : k < 6) (h6 : kd < 6) (hne : b + 2 + k ≠ a) (hne2 : b + 2 + k ≠ a + 1) (hr : rOk x) (hj : j ≤ 9999) (hx : xRec σ a x) (hq : σ.1 (b + 2 + k) 1 = nI j) (hkd : σ.1 (b + 2 + k) 0 = nI kd) (hd : σ.1 b 3 = nI day) (hd2 : day < 2 ^ 20) : ∃ σ', m_X10_openBy b (nI k) a σ = some ((), σ') ∧ xRec σ' a (tOpen kd day (x, j)).1 ∧ σ'.1 (b + 2 + k) 1 = nI (tOpen kd day (x, j)).2 ∧ fEq (sAJ a (b + 2 + k)) σ σ' := by
  have hle := kOpens_le kd day (x 0) (x 4)
  have h0 := hr.1
  unfold m_X10_openBy
  rw [ex_mannerOf hk hkd h6, nu_b, ex_takesOff hk h6 hr hx hkd hd hd2, nu_b]
  simp only [nu_lit]
  obtain ⟨σ1, h1, h2, h3, h4⟩ := ex_openLoop (fun (x0_y18 : Nat) (x1_y18 : Int32) (x2_y18 : Nat) (x3_y18 : Nat) (x4_y18 : Int32) (x5_y18 : Int32) (σ_y18 : fm_M) => if (σ_y18.1 x2_y18 1) = nI 0 then (fm_let (fm_sI σ_y18 x2_y18 4 (nI 1)) fun σ19 => (fm_g (fm_in1 x1_y18 6) (fm_b (mv_isStruck x3_y18 (σ19.1 x2_y18 2) σ19) fun r22 σ23 => (fm_b (m_X5_pleaseBy (x0_y18 + 2 + x1_y18.toNatClampNeg) r22 σ23) fun _u25 σ26 => (some ((), σ26)))))) else (some ((), σ_y18))) (N := kOpens kd day (x 0) (x 4)) hk h6 hne hne2 (by omega) (kOpens kd day (x 0) (x 4)) fm_fu 0 σ (x, j) (by have := nu_fu; omega) (by omega) hle hr hj hx hq
  rw [h1]
  obtain ⟨o1, o2, o3, o4, o5, o6⟩ := oneOpen_ok kd (kOpens kd day (x 0) (x 4)) (x, j) hr hle hj
  unfold tOpen
  generalize hQ : oneOpen kd (kOpens kd day (x 0) (x 4)) (x, j) = Q at h2 h3 o1 o2 o3 o4 o5 o6 ⊢
  have q6 := o1.1
  rw [h2.n]
  simp only [nu_eq (show Q.1 0 < 2 ^ 30 by omega) (show 0 < 2 ^ 30 by decide)]
  unfold tEnd
  by_cases z : Q.1 0 = 0
  · have e1 : (fm_sI σ1 a 4 (nI 1)).1 a 2 = nI (Q.1 1) := by rw [nu_sI, if_neg (by omega)]; exact h2.1 1 (by omega)
    have b1 := o1.2.1
    have bs := kStruck_le (kd := kd) b1
    rw [if_pos z, if_pos z, nu_let, nu_in hk (by decide), nu_g, e1, ex_isStruck h6 b1, nu_b, nu_cl (by omega), ex_pleaseBy (j := Q.2) (by rw [nu_sI, if_neg (fun y => hne y.1)]; exact h3) o2 (by omega), nu_b]
    refine ⟨_, rfl, ⟨fun f hf => ?_, fun i hi => ?_⟩, by rw [nu_sI, if_pos ⟨rfl, rfl⟩], ?_⟩
    · rw [nu_sI, if_neg (fun y => hne y.1.symm), nu_sI]
      by_cases f3 : f = 3
      · subst f3; rw [if_pos ⟨rfl, rfl⟩]; simp [rSet]
      · rw [if_neg (by omega), h2.1 f hf]; simp [rSet, f3]
    · have hi : i < Q.1 0 := by simpa [rSet] using hi
      omega
    · exact fEq.tr (S1 := sAJ a (b + 2 + k)) (fEq.tr (S1 := sAJ a (b + 2 + k)) (S2 := sAJ a (b + 2 + k)) h4 (fEq.set (Or.inl (Or.inl rfl))) (fun _ _ h => h) (fun _ _ h => h)) (fEq.set (S := sAJ a (b + 2 + k)) (Or.inr ⟨rfl, rfl⟩)) (fun _ _ h => h) (fun _ _ h => h)
  · rw [if_neg z, if_neg z]
    exact ⟨σ1, rfl, h2, h3, h4⟩
theorem ex_handsNo {σ : fm_M} {b a k kd day np : Nat} {x : Nat → Nat} (hk : k < np) (hnp : np ≤ 6) (h6 : kd < 6) (hr : rOk x) (hx : xRec σ a x) (hkd : σ.1 (b + 2 + k) 0 = nI kd) (hd : σ.1 b 3 = nI day) (hd2 : day < 2 ^ 20) (hn : σ.1 b 4 = nI np) (hno : kPass kd day (x 0) = 0 ∨ np < 2) : m_X10_handsOn b (nI k) a σ = some (nI 0, σ) := by
  have h0 := hr.1
  have kp := kPass_le kd day (x 0)
  unfold m_X10_handsOn
  simp only [nu_lit, nu_j]
  rw [ex_mannerOf (by omega) hkd h6, nu_b, hx.n, hd, nu_rem (by omega) (by decide) (by decide), ex_passesOn h6 h0, nu_b]
  by_cases z : kPass kd day (x 0) = 0
  · rw [z, if_pos (show mPass 0 < nI 0 by decide)]
  · have hm : mPass (kPass kd day (x 0)) = nI (kPass kd day (x 0) - 1) := by unfold mPass; rw [if_neg z]
    rw [hm, if_neg (show ¬ nI (kPass kd day (x 0) - 1) < nI 0 from nI_pos (by omega)), hn, if_neg (by rw [nu_le (by decide) (by omega)]; omega)]
theorem ex_handsYes {σ : fm_M} {b a k kd day np : Nat} {x : Nat → Nat} (hk : k < np) (hnp : np ≤ 6) (h6 : kd < 6) (hba : b ≠ a) (hba2 : b ≠ a + 1) (hr : rOk x) (hx : xRec σ a x) (hkd : σ.1 (b + 2 + k) 0 = nI kd) (hd : σ.1 b 3 = nI day) (hd2 : day < 2 ^ 20) (hn : σ.1 b 4 = nI np) (hno : ¬ (kPass kd day (x 0) = 0 ∨ np < 2)) : ∃ σ', m_X10_handsOn b (nI k) a σ = some (nI 1, σ') ∧ xRec σ' a (tGive kd day np k x) ∧ fEq (sA a) σ σ' := by
  have h0 := hr.1
  have kp := kPass_le kd day (x 0)
  unfold m_X10_handsOn
  simp only [nu_lit, nu_j]
  have hm : mPass (kPass kd day (x 0)) = nI (kPass kd day (x 0) - 1) := by unfold mPass; rw [if_neg (by omega)]
  rw [ex_mannerOf (by omega) hkd h6, nu_b, hx.n, hd, nu_rem (by omega) (by decide) (by decide), ex_passesOn h6 h0, nu_b, hm, if_neg (show ¬ nI (kPass kd day (x 0) - 1) < nI 0 from nI_pos (by omega)), hn, if_pos (by rw [nu_le (by decide) (by omega)]; omega)]
  have tail : ∀ (σ2 : fm_M) (y : Nat → Nat), xRec σ2 a y → fEq (sA a) σ σ2 → ∃ σ', (if (σ2.1 b 4) ≤ (nI k + nI 1) then (fm_let (fm_sI σ2 a 3 (nI 0)) fun σ12 => (some (nI 1, σ12))) else (fm_let (fm_sI σ2 a 3 (nI k + nI 1)) fun σ12 => (some (nI 1, σ12)))) = some (nI 1, σ') ∧ xRec σ' a (rSet y 2 (if k + 1 < np then k + 1 else 0)) ∧ fEq (sA a) σ σ' := by
    intro σ2 y hy hfe
    have n2 : σ2.1 b 4 = nI np := by rw [hfe.1 _ _ (fun w => w.elim hba hba2)]; exact hn
    have fin : ∀ v, xRec (fm_sI σ2 a 3 (nI v)) a (rSet y 2 v) ∧ fEq (sA a) σ (fm_sI σ2 a 3 (nI v)) := by
      intro v
      refine ⟨⟨fun f hf => ?_, fun i hi => ?_⟩, fEq.tr (S1 := sA a) hfe (fEq.set (S := sA a) (Or.inl rfl)) (fun _ _ h => h) (fun _ _ h => h)⟩
      · rw [nu_sI]
        by_cases f2 : f = 2
        · subst f2; rw [if_pos ⟨rfl, rfl⟩]; simp [rSet]
        · rw [if_neg (by omega), hy.1 f hf]; simp [rSet, f2]
      · have hi : i < y 0 := by simpa [rSet] using hi
        have e1 : rSet y 2 v 0 = y 0 := by simp [rSet]
        have e2 : rSet y 2 v (4 + i) = y (4 + i) := by unfold rSet; rw [if_neg (by omega)]
        rw [nu_sI, if_neg (by omega), e1, e2]; exact hy.2 i hi
    rw [n2, nI_add]
    simp only [nu_le (show np < 2 ^ 30 by omega) (show k + 1 < 2 ^ 30 by omega)]
    by_cases z : np ≤ k + 1
    · rw [if_pos z, nu_let, if_neg (by omega)]; exact ⟨_, rfl, fin 0⟩
    · rw [if_neg z, nu_let, if_pos (by omega)]; exact ⟨_, rfl, fin (k + 1)⟩
  unfold tGive
  by_cases z6 : x 0 < 6
  · obtain ⟨σ2, a1, a2, a3⟩ := ex_layAbout (q := kPass kd day (x 0) - 1) hx z6
    rw [a1, nu_b, if_pos z6]
    exact tail σ2 _ a2 a3
  · rw [ex_layFull hx (by omega) (by omega), nu_b, if_neg z6]
    exact tail σ x hx fEq.rf
