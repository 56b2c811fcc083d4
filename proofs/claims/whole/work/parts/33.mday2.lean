def sPJ (p k : Nat) : Nat → Nat → Prop := fun a i => sP p a i ∨ sJ k a i
theorem em_openLoop (kc : Int32 → Int32 → Int32 → fm_M → Option (Unit × fm_M)) {k p kd : Nat} (hk : k < 6) (hp : p < 8) (h6 : kd < 6) : ∀ (m fuel : Nat) (σ : fm_M) (q : (Nat → Nat) × Nat), m < fuel → m ≤ q.1 0 → rOk q.1 → q.2 ≤ 9999 → mRec σ 97 p q.1 → σ.1 97 (5 + 2 * k) = nI q.2 → σ.1 97 (4 + 2 * k) = nI kd → ∃ σ', m_X12_opens_7 kc fuel (nI k) (nI p) (nI m) σ = kc (nI k) (nI p) (nI 0) σ' ∧ mRec σ' 97 p (oneOpen kd m q).1 ∧ σ'.1 97 (5 + 2 * k) = nI (oneOpen kd m q).2 ∧ fEq (sPJ p k) σ σ' := by
  intro m
  induction m with
  | zero =>
    intro fuel σ q hf hm hr hj hx hq hkd
    obtain ⟨n, rfl⟩ : ∃ n, fuel = n + 1 := ⟨fuel - 1, by omega⟩
    refine ⟨σ, ?_, hx, hq, fEq.rf⟩
    rw [m_X12_opens_7, if_pos (show nI 0 ≤ 0 by decide)]
  | succ m ih =>
    intro fuel σ q hf hm hr hj hx hq hkd
    obtain ⟨n, rfl⟩ : ∃ n, fuel = n + 1 := ⟨fuel - 1, by omega⟩
    have h0 := hr.1
    have b4 : q.1 4 < 4 := hr.2.2.2 0 (by omega)
    obtain ⟨σ1, t1, t2, t3⟩ := em_takesLayer hp hx (by omega) h0
    have e1 : σ1.1 97 (5 + 2 * k) = nI q.2 := by rw [t3.1 _ _ (fun z => by have := z.2.1; omega)]; exact hq
    have e2 : σ1.1 97 (4 + 2 * k) = nI kd := by rw [t3.1 _ _ (fun z => by have := z.2.1; omega)]; exact hkd
    have bj := kEnjoys_le (kd := kd) b4
    obtain ⟨σ', h1, h2, h3, h4⟩ := ih n (fm_sI σ1 97 (5 + 2 * k) (nI (min 9999 (q.2 + kEnjoys kd (q.1 4))))) (rPop q.1, min 9999 (q.2 + kEnjoys kd (q.1 4))) (by omega) (by simp [rPop]; omega) (rPop_ok hr (by omega)) (Nat.min_le_left _ _) (fun f hf2 => by rw [nu_sI, if_neg (by omega)]; exact t2 f hf2) (by rw [nu_sI, if_pos ⟨rfl, rfl⟩]) (by rw [nu_sI, if_neg (by omega)]; exact e2)
    refine ⟨σ', ?_, h2, h3, ?_⟩
    · rw [m_X12_opens_7, if_neg (nI_nle (by omega) (by omega)), t1, nu_b, em_enjoysOf hk b4 e2 h6, nu_b, em_enjoys hk e1 hj (by omega), nu_b]
      simp only [nu_lit]
      rw [nu_m1]
      exact h1
    · refine fEq.tr (S1 := sPJ p k) (fEq.tr (S1 := sP p) (S2 := sJ k) t3 (fEq.set ⟨rfl, rfl⟩) (fun _ _ h => Or.inl h) (fun _ _ h => Or.inr h)) h4 (fun _ _ h => h) (fun _ _ h => h)
theorem em_opens {σ : fm_M} {k p kd day j : Nat} {x : Nat → Nat} (hk : k < 6) (hp : p < 8) (h6 : kd < 6) (hr : rOk x) (hj : j ≤ 9999) (hx : mRec σ 97 p x) (hq : σ.1 97 (5 + 2 * k) = nI j) (hkd : σ.1 97 (4 + 2 * k) = nI kd) (hd : σ.1 97 0 = nI day) (hd2 : day < 2 ^ 20) : ∃ σ', m_X12_opens (nI k) (nI p) σ = some ((), σ') ∧ mRec σ' 97 p (tOpen kd day (x, j)).1 ∧ σ'.1 97 (5 + 2 * k) = nI (tOpen kd day (x, j)).2 ∧ fEq (sPJ p k) σ σ' := by
  unfold m_X12_opens
  rw [em_opensOf hk hp hx hr hkd h6 hd hd2, nu_b]
  have hle := kOpens_le kd day (x 0) (x 4)
  have h0 := hr.1
  simp only [nu_lit]
  obtain ⟨σ1, h1, h2, h3, h4⟩ := em_openLoop (fun (x1_y13 : Int32) (x2_y13 : Int32) (x3_y13 : Int32) (σ_y13 : fm_M) => fm_b (m_X12_of1 x2_y13 (nI 0) σ_y13) fun r14 σ15 => (if r14 = nI 0 then (fm_b (m_X12_lays1 x2_y13 (nI 3) (nI 1) σ15) fun _u17 σ18 => (fm_b (m_X12_of1 x2_y13 (nI 1) σ18) fun r20 σ21 => (fm_b (m_X12_struckOf x1_y13 r20 σ21) fun r23 σ24 => (fm_b (m_X12_enjoys x1_y13 r23 σ24) fun _u26 σ27 => (some ((), σ27)))))) else (some ((), σ15)))) hk hp h6 (kOpens kd day (x 0) (x 4)) fm_fu σ (x, j) (by have := nu_fu; omega) hle hr hj hx hq hkd
  rw [h1]
  obtain ⟨o1, o2, o3, o4, o5, o6⟩ := oneOpen_ok kd (kOpens kd day (x 0) (x 4)) (x, j) hr hle hj
  have hkd1 : σ1.1 97 (4 + 2 * k) = nI kd := by
    rw [h4.1 _ _ (fun z => z.elim (fun z => by have := z.2.1; omega) (fun z => by have := z.2; omega))]; exact hkd
  unfold tOpen
  generalize hQ : oneOpen kd (kOpens kd day (x 0) (x 4)) (x, j) = Q at h2 h3 o1 o2 o3 o4 o5 o6 ⊢
  have e0 : σ1.1 97 (16 + 10 * p + 0) = nI (Q.1 0) := h2 0 (by omega)
  have q6 := o1.1
  rw [em_of1 σ1 (by omega), nu_b, e0]
  simp only [nu_eq (show Q.1 0 < 2 ^ 30 by omega) (show 0 < 2 ^ 30 by decide)]
  unfold tEnd
  by_cases z : Q.1 0 = 0
  · rw [if_pos z, if_pos z, em_lays1 σ1 (by omega), nu_b, em_of1 _ (by omega), nu_b]
    have e1 : (fm_sI σ1 97 (16 + 10 * p + 3) (nI 1)).1 97 (16 + 10 * p + 1) = nI (Q.1 1) := by rw [nu_sI, if_neg (by omega)]; exact h2 1 (by omega)
    have b1 := o1.2.1
    have bs := kStruck_le (kd := kd) b1
    rw [e1, em_struckOf hk b1 (by rw [nu_sI, if_neg (by omega)]; exact hkd1) h6, nu_b, em_enjoys hk (j := Q.2) (by rw [nu_sI, if_neg (by omega)]; exact h3) o2 (by omega), nu_b]
    refine ⟨_, rfl, fun f hf => ?_, by rw [nu_sI, if_pos ⟨rfl, rfl⟩], ?_⟩
    · have hf : f < 4 + Q.1 0 := by simpa [rSet] using hf
      rw [nu_sI, if_neg (by omega), nu_sI]
      by_cases f3 : f = 3
      · subst f3; rw [if_pos ⟨rfl, rfl⟩]; simp [rSet]
      · rw [if_neg (by omega), h2 f hf]; simp [rSet, f3]
    · exact fEq.tr (S1 := sPJ p k) (fEq.tr (S1 := sPJ p k) (S2 := sPJ p k) h4 (fEq.set (Or.inl ⟨rfl, by omega, by omega⟩)) (fun _ _ h => h) (fun _ _ h => h)) (fEq.set (S := sPJ p k) (Or.inr ⟨rfl, rfl⟩)) (fun _ _ h => h) (fun _ _ h => h)
  · rw [if_neg z, if_neg z]
    exact ⟨σ1, rfl, h2, h3, h4⟩
-- bits, by trying all
theorem bt_get : ∀ m, m < 256 → ∀ p, p < 8 → ((nI m >>> (nI p &&& nI 31)) &&& nI 1 = nI 1 ↔ m.testBit p = true) := by decide +kernel
theorem bt_set : ∀ m, m < 256 → ∀ p, p < 8 → nI m ||| (nI 1 <<< (nI p &&& nI 31)) = nI (m ||| 2 ^ p) ∧ m ||| 2 ^ p < 256 := by decide +kernel
theorem bt_or (m p i : Nat) : (m ||| 2 ^ p).testBit i = (m.testBit i || decide (p = i)) := by rw [Nat.testBit_or, Nat.testBit_two_pow]
/-- whether the one passes it on -/
def tPasses (kd day np : Nat) (x : Nat → Nat) : Bool := decide (¬ (kPass kd day (x 0) = 0 ∨ np < 2))
def sTn (p k : Nat) : Nat → Nat → Prop := fun a i => sPJ p k a i ∨ (a = 96 ∧ i = 5)
theorem em_takesTurn {σ : fm_M} {k p kd day j np b : Nat} {x : Nat → Nat} (hk : k < np) (hnp : np ≤ 6) (hp : p < 8) (h6 : kd < 6) (hr : rOk x) (hj : j ≤ 9999) (hx : mRec σ 97 p x) (hq : σ.1 97 (5 + 2 * k) = nI j) (hkd : σ.1 97 (4 + 2 * k) = nI kd) (hd : σ.1 97 0 = nI day) (hd2 : day < 2 ^ 20) (hn : σ.1 97 1 = nI np) (hb : σ.1 96 5 = nI b) (hb2 : b < 256) : ∃ σ', m_X12_takesTurn (nI k) (nI p) σ = some ((), σ') ∧ mRec σ' 97 p (tTurn kd day np k (x, j)).1 ∧ σ'.1 97 (5 + 2 * k) = nI (tTurn kd day np k (x, j)).2 ∧ σ'.1 96 5 = nI (if tPasses kd day np x then b ||| 2 ^ p else b) ∧ fEq (sTn p k) σ σ' := by
  have h0 := hr.1
  have e0 : σ.1 97 (16 + 10 * p + 0) = nI (x 0) := hx 0 (by omega)
  have kp := kPass_le kd day (x 0)
  unfold m_X12_takesTurn
  simp only [nu_lit, nu_j]
  rw [em_of1 σ (by omega), nu_b, e0, em_passesOf (by omega) h0 hkd h6 hd hd2, nu_b]
  obtain ⟨σ1, o1, o2, o3, o4⟩ := em_opens (by omega) hp h6 hr hj hx hq hkd hd hd2
  have o5 : σ1.1 96 5 = nI b := by rw [o4.1 _ _ (fun z => z.elim (fun z => by have := z.1; omega) (fun z => by have := z.1; omega))]; exact hb
  unfold tTurn tPasses
  dsimp only
  by_cases z : kPass kd day (x 0) = 0
  · rw [if_pos (show mPass (kPass kd day (x 0)) < nI 0 by rw [z]; decide), o1, nu_b, if_pos (Or.inl z)]
    refine ⟨σ1, rfl, o2, o3, ?_, o4.mono (fun _ _ h => Or.inl h)⟩
    simp [z, o5]
  · have hm : mPass (kPass kd day (x 0)) = nI (kPass kd day (x 0) - 1) := by unfold mPass; rw [if_neg z]
    rw [hm, if_neg (show ¬ nI (kPass kd day (x 0) - 1) < nI 0 from nI_pos (by omega)), nu_in (by decide) (by decide), nu_g, nu_cl (n := 1) (by omega), hn]
    simp only [nu_eq (show np < 2 ^ 30 by omega) (show 1 < 2 ^ 30 by decide)]
    by_cases z1 : np = 1
    · rw [if_pos z1, o1, nu_b, if_pos (Or.inr (by omega))]
      refine ⟨σ1, rfl, o2, o3, ?_, o4.mono (fun _ _ h => Or.inl h)⟩
      rw [if_neg (by simp; omega)]; exact o5
    · rw [if_neg z1, if_neg (show ¬ (kPass kd day (x 0) = 0 ∨ np < 2) by omega), em_of1 σ (by omega), nu_b, e0]
      have tail : ∀ (σ2 : fm_M) (y : Nat → Nat), mRec σ2 97 p y → y 0 ≤ 6 → fEq (sP p) σ σ2 → ∃ σ', (fm_g (fm_in1 (nI 1) 96) (fm_g (decide (¬ (σ2.1 97 (nI 1).toNatClampNeg) = nI 0)) (fm_b (m_X12_lays1 (nI p) (nI 2) ((nI k + nI 1) - (nI k + nI 1) / (σ2.1 97 (nI 1).toNatClampNeg) * (σ2.1 97 (nI 1).toNatClampNeg)) σ2) fun _u17 σ18 => (fm_let (fm_sI σ18 96 5 ((σ18.1 96 5) ||| (nI 1 <<< (nI p &&& nI 31)))) fun σ20 => (some ((), σ20)))))) = some ((), σ') ∧ mRec σ' 97 p (rSet y 2 (if k + 1 < np then k + 1 else 0)) ∧ σ'.1 97 (5 + 2 * k) = nI j ∧ σ'.1 96 5 = nI (b ||| 2 ^ p) ∧ fEq (sTn p k) σ σ' := by
        intro σ2 y hy y6 hfe
        have n2 : σ2.1 97 1 = nI np := by rw [hfe.1 _ _ (fun w => by have := w.2.1; omega)]; exact hn
        have b2 : σ2.1 96 5 = nI b := by rw [hfe.1 _ _ (fun w => by have := w.1; omega)]; exact hb
        have j2 : σ2.1 97 (5 + 2 * k) = nI j := by rw [hfe.1 _ _ (fun w => by have := w.2.1; omega)]; exact hq
        rw [nu_in (by decide) (by decide), nu_g, nu_cl (n := 1) (by omega), n2, show decide (¬ nI np = nI 0) = true by rw [decide_eq_true_eq, nu_eq (by omega) (by decide)]; omega, nu_g, nI_add, nu_rem (by omega) (by omega) (by omega), em_lays1 σ2 (by omega), nu_b, nu_let]
        have b3 : (fm_sI σ2 97 (16 + 10 * p + 2) (nI ((k + 1) % np))).1 96 5 = nI b := by rw [nu_sI, if_neg (by omega)]; exact b2
        have hm : (k + 1) % np = (if k + 1 < np then k + 1 else 0) := by
          split
          · exact Nat.mod_eq_of_lt (by assumption)
          · rw [show k + 1 = np by omega, Nat.mod_self]
        rw [b3, show nI b ||| (nI 1 <<< (nI p &&& nI 31)) = nI (b ||| 2 ^ p) from (bt_set b hb2 p hp).1, hm]
        refine ⟨_, rfl, fun f hf => ?_, ?_, ?_, ?_⟩
        · have hf : f < 4 + y 0 := by simpa [rSet] using hf
          rw [nu_sI, if_neg (by omega), nu_sI]
          by_cases f2 : f = 2
          · subst f2; rw [if_pos ⟨rfl, rfl⟩]; simp [rSet]
          · rw [if_neg (by omega), hy f hf]; simp [rSet, f2]
        · rw [nu_sI, if_neg (by omega), nu_sI, if_neg (by omega)]; exact j2
        · rw [nu_sI, if_pos ⟨rfl, rfl⟩]
        · exact fEq.tr (S1 := sTn p k) (fEq.tr (S1 := sTn p k) (S2 := sTn p k) (hfe.mono (fun _ _ h => Or.inl (Or.inl h))) (fEq.set (Or.inl (Or.inl ⟨rfl, by omega, by omega⟩))) (fun _ _ h => h) (fun _ _ h => h)) (fEq.set (S := sTn p k) (Or.inr ⟨rfl, rfl⟩)) (fun _ _ h => h) (fun _ _ h => h)
      simp only [nu_le (show 6 < 2 ^ 30 by decide) (show x 0 < 2 ^ 30 by omega)]
      have hdec : decide (¬ (kPass kd day (x 0) = 0 ∨ np < 2)) = true := by rw [decide_eq_true_eq]; omega
      rw [hdec]
      simp only [if_true]
      unfold tGive
      by_cases z6 : 6 ≤ x 0
      · rw [if_pos z6, if_neg (show ¬ x 0 < 6 by omega)]
        exact tail σ x hx h0 fEq.rf
      · rw [if_neg z6, if_pos (show x 0 < 6 by omega)]
        obtain ⟨σ2, a1, a2, a3⟩ := em_addsLayer (q := kPass kd day (x 0) - 1) hp hx (by omega)
        rw [a1, nu_b]
        exact tail σ2 _ a2 (by simp [rPush]; omega) a3
