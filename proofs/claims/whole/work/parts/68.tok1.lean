/-! THE TEXT OF A TOWN: its tokens -/
theorem nu_litL (n : Nat) : (OfNat.ofNat n : Int64) = lN n := id rfl
def isL (b : Nat) : Bool := decide (97 ≤ b ∧ b ≤ 122)
def isD (b : Nat) : Bool := decide (48 ≤ b ∧ b ≤ 57)
def nb (bt : Nat → Nat) : Nat → Bool := fun i => decide (¬ bt i = 32)
def nl (bt : Nat → Nat) : Nat → Bool := fun i => !(isL (bt i))
def nd (bt : Nat → Nat) : Nat → Bool := fun i => !(isD (bt i))
theorem isL_ok {b : Nat} (h : isL b = true) : 97 ≤ b ∧ b ≤ 122 := of_decide_eq_true h
theorem isD_ok {b : Nat} (h : isD b = true) : 48 ≤ b ∧ b ≤ 57 := of_decide_eq_true h
theorem ex_isLetter {b : Nat} (σ : fm_M) (hb : b < 256) : m_X9_isLetter (nI b) σ = some (if isL b = true then nI 1 else nI 0, σ) := by
  unfold m_X9_isLetter isL
  simp only [nu_lit, decide_eq_true_eq, nu_lt (show b < 2 ^ 30 by omega) (show 97 < 2 ^ 30 by decide), nu_lt (show 122 < 2 ^ 30 by decide) (show b < 2 ^ 30 by omega)]
  by_cases h1 : b < 97
  · rw [if_pos h1, if_neg (by omega)]
  · rw [if_neg h1]
    by_cases h2 : 122 < b
    · rw [if_pos h2, if_neg (by omega)]
    · rw [if_neg h2, if_pos (by omega)]
theorem ex_isDigit {b : Nat} (σ : fm_M) (hb : b < 256) : m_X9_isDigit (nI b) σ = some (if isD b = true then nI 1 else nI 0, σ) := by
  unfold m_X9_isDigit isD
  simp only [nu_lit, decide_eq_true_eq, nu_lt (show b < 2 ^ 30 by omega) (show 48 < 2 ^ 30 by decide), nu_lt (show 57 < 2 ^ 30 by decide) (show b < 2 ^ 30 by omega)]
  by_cases h1 : b < 48
  · rw [if_pos h1, if_neg (by omega)]
  · rw [if_neg h1]
    by_cases h2 : 57 < b
    · rw [if_pos h2, if_neg (by omega)]
    · rw [if_neg h2, if_pos (by omega)]
theorem em_isLetter {b : Nat} (σ : fm_M) (hb : b < 256) : m_X12_isLetter (nI b) σ = some (if isL b = true then nI 1 else nI 0, σ) := by
  unfold m_X12_isLetter isL
  simp only [nu_lit]
  rw [em_in1, nu_b]
  simp only [decide_eq_true_eq, nu_le (show 97 < 2 ^ 30 by decide) (show b < 2 ^ 30 by omega), nu_le (show b < 2 ^ 30 by omega) (show 122 < 2 ^ 30 by decide)]
  by_cases h : 97 ≤ b ∧ b ≤ 122
  · rw [if_pos h, nu_bz1, nu_g]
  · rw [if_neg h, nu_bz0, nu_g]
theorem em_isDigit {b : Nat} (σ : fm_M) (hb : b < 256) : m_X12_isDigit (nI b) σ = some (if isD b = true then nI 1 else nI 0, σ) := by
  unfold m_X12_isDigit isD
  simp only [nu_lit]
  rw [em_in1, nu_b]
  simp only [decide_eq_true_eq, nu_le (show 48 < 2 ^ 30 by decide) (show b < 2 ^ 30 by omega), nu_le (show b < 2 ^ 30 by omega) (show 57 < 2 ^ 30 by decide)]
  by_cases h : 48 ≤ b ∧ b ≤ 57
  · rw [if_pos h, nu_bz1, nu_g]
  · rw [if_neg h, nu_bz0, nu_g]
-- the tapes
def tpX (σ : fm_M) (bt : Nat → Nat) (n : Nat) : Prop := σ.1 92 1 = nI n ∧ ∀ i, i < n → σ.1 93 i = nI (bt i)
def tpM (σ : fm_M) (bt : Nat → Nat) (n : Nat) : Prop := σ.1 96 8 = nI n ∧ ∀ i, i < n → σ.1 102 i = nI (bt i)
def btOk (bt : Nat → Nat) (n : Nat) : Prop := n ≤ 120 ∧ ∀ i, i < n → bt i < 256
theorem tpX.keep {σ σ' : fm_M} {bt : Nat → Nat} {n : Nat} (h : tpX σ bt n) (h1 : σ'.1 92 1 = σ.1 92 1) (h2 : ∀ k, σ'.1 93 k = σ.1 93 k) : tpX σ' bt n := ⟨by rw [h1]; exact h.1, fun i hi => by rw [h2]; exact h.2 i hi⟩
theorem tpM.keep {σ σ' : fm_M} {bt : Nat → Nat} {n : Nat} (h : tpM σ bt n) (h1 : σ'.1 96 8 = σ.1 96 8) (h2 : ∀ k, σ'.1 102 k = σ.1 102 k) : tpM σ' bt n := ⟨by rw [h1]; exact h.1, fun i hi => by rw [h2]; exact h.2 i hi⟩
theorem ex_skip {bt : Nat → Nat} {n : Nat} (hb : btOk bt n) : ∀ (m fuel i : Nat) (σ : fm_M), m < fuel → i + m = n → tpX σ bt n → σ.1 92 2 = nI i → ∃ σ', (∀ kc : fm_M → Option (Unit × fm_M), m_X9_step_8 kc fuel σ = kc σ') ∧ σ'.1 92 2 = nI (tf (nb bt) m i) ∧ fEq (fun a k => a = 92 ∧ k = 2) σ σ' := by
  intro m
  induction m with
  | zero =>
    intro fuel i σ hf hi ht h2
    obtain ⟨f, rfl⟩ : ∃ f, fuel = f + 1 := ⟨fuel - 1, by omega⟩
    refine ⟨σ, ?_, h2, fEq.rf⟩
    have := hb.1
    intro kc
    rw [m_X9_step_8, ht.1, h2, if_pos (by rw [nu_le (by omega) (by omega)]; omega)]
  | succ m ih =>
    intro fuel i σ hf hi ht h2
    obtain ⟨f, rfl⟩ : ∃ f, fuel = f + 1 := ⟨fuel - 1, by omega⟩
    have hn := hb.1
    have hi' := hb.2 i (by omega)
    by_cases z : bt i = 32
    · obtain ⟨σ', v1, v2, v3⟩ := ih f (i + 1) (fm_sI σ 92 2 (nI (i + 1))) (by omega) (by omega) (ht.keep (by rw [nu_sI, if_neg (by omega)]) (fun k => by rw [nu_sI, if_neg (by omega)])) (by rw [nu_sI, if_pos ⟨rfl, rfl⟩])
      have tb : ¬ nb bt i = true := by simp [nb, z]
      rw [tf, if_neg tb]
      refine ⟨σ', ?_, v2, fEq.tr (S := fun a k => a = 92 ∧ k = 2) (fEq.set (S := fun a k => a = 92 ∧ k = 2) ⟨rfl, rfl⟩) v3 (fun _ _ z => z) (fun _ _ z => z)⟩
      intro kc
      rw [m_X9_step_8]
      simp only [nu_lit]
      rw [ht.1, h2, if_neg (by rw [nu_le (by omega) (by omega)]; omega), nu_in (by omega) (by decide), nu_g, nu_cl (by omega), ht.2 i (by omega), if_pos (by rw [z]), nI_add, nu_let]
      exact v1 kc
    · have tb : nb bt i = true := by simp [nb, z]
      rw [tf, if_pos tb]
      refine ⟨σ, ?_, h2, fEq.rf⟩
      intro kc
      rw [m_X9_step_8]
      simp only [nu_lit]
      rw [ht.1, h2, if_neg (by rw [nu_le (by omega) (by omega)]; omega), nu_in (by omega) (by decide), nu_g, nu_cl (by omega), ht.2 i (by omega), if_neg (by rw [nu_eq (by omega) (by decide)]; exact z)]
theorem ex_wordEnd {bt : Nat → Nat} {n : Nat} (hb : btOk bt n) : ∀ (m fuel i : Nat) (σ : fm_M), m < fuel → i + m = n → tpX σ bt n → σ.1 92 3 = nI i → ∃ σ', (∀ kc : fm_M → Option (Unit × fm_M), m_X9_stepOverWord_0 kc fuel σ = kc σ') ∧ σ'.1 92 3 = nI (tf (nl bt) m i) ∧ fEq (fun a k => a = 92 ∧ k = 3) σ σ' := by
  intro m
  induction m with
  | zero =>
    intro fuel i σ hf hi ht h2
    obtain ⟨f, rfl⟩ : ∃ f, fuel = f + 1 := ⟨fuel - 1, by omega⟩
    refine ⟨σ, ?_, h2, fEq.rf⟩
    have := hb.1
    intro kc
    rw [m_X9_stepOverWord_0, ht.1, h2, if_pos (by rw [nu_le (by omega) (by omega)]; omega)]
  | succ m ih =>
    intro fuel i σ hf hi ht h2
    obtain ⟨f, rfl⟩ : ∃ f, fuel = f + 1 := ⟨fuel - 1, by omega⟩
    have hn := hb.1
    have hi' := hb.2 i (by omega)
    by_cases z : isL (bt i) = true
    · obtain ⟨σ', v1, v2, v3⟩ := ih f (i + 1) (fm_sI σ 92 3 (nI (i + 1))) (by omega) (by omega) (ht.keep (by rw [nu_sI, if_neg (by omega)]) (fun k => by rw [nu_sI, if_neg (by omega)])) (by rw [nu_sI, if_pos ⟨rfl, rfl⟩])
      have tb : ¬ nl bt i = true := by simp [nl, z]
      rw [tf, if_neg tb]
      refine ⟨σ', ?_, v2, fEq.tr (S := fun a k => a = 92 ∧ k = 3) (fEq.set (S := fun a k => a = 92 ∧ k = 3) ⟨rfl, rfl⟩) v3 (fun _ _ z => z) (fun _ _ z => z)⟩
      intro kc
      rw [m_X9_stepOverWord_0]
      simp only [nu_lit]
      rw [ht.1, h2, if_neg (by rw [nu_le (by omega) (by omega)]; omega), nu_in (by omega) (by decide), nu_g, nu_cl (by omega), ht.2 i (by omega), ex_isLetter _ hi', nu_b, if_pos z, if_neg nI10, h2, nI_add, nu_let]
      exact v1 kc
    · have tb : nl bt i = true := by simp [nl, z]
      rw [tf, if_pos tb]
      refine ⟨σ, ?_, h2, fEq.rf⟩
      intro kc
      rw [m_X9_stepOverWord_0]
      simp only [nu_lit]
      rw [ht.1, h2, if_neg (by rw [nu_le (by omega) (by omega)]; omega), nu_in (by omega) (by decide), nu_g, nu_cl (by omega), ht.2 i (by omega), ex_isLetter _ hi', nu_b, if_neg z, if_pos rfl]
-- the words
def wdN : List (List Nat) := [[109, 97, 110], [97, 117, 110, 116], [99, 104, 105, 108, 100], [112, 111, 111, 114], [103, 105, 114, 108], [99, 108, 101, 114, 107], [110, 101, 119, 115], [98, 114, 111, 119, 110], [116, 105, 115, 115, 117, 101], [109, 97, 114, 98, 108, 101, 100], [112, 114, 101, 115, 101, 110, 116], [116, 104, 105, 110, 103]]
def tl (w : Nat) : Nat := fm_tl.getD w 0
def ch (w i : Nat) : Nat := (wdN.getD w []).getD i 0
theorem tl_le : ∀ w, w < 12 → tl w ≤ 7 := by decide +kernel
theorem tl_len : ∀ w, w < 12 → Int32.ofNat (fm_tl.getD w 0) >>> ((0 : Int32) &&& 31) = nI (tl w) := by decide +kernel
theorem ch_at : ∀ w, w < 12 → ∀ i, i < 7 → i < tl w → (((fm_tby.getD w []).getD i 0 &&& 255).toUInt32 % 65536).toInt32 = nI (ch w i) ∧ fm_cz (nI (ch w i)) = true ∧ 97 ≤ ch w i ∧ ch w i ≤ 122 := by decide +kernel
theorem ex_charAt {w i : Nat} (σ : fm_M) (hw : w < 12) (hi : i < tl w) : m_J0_charAt_5068e w (nI i) σ = some (nI (ch w i), σ) := by
  have h7 := tl_le w hw
  obtain ⟨e1, e2, -⟩ := ch_at w hw i (by omega) hi
  unfold m_J0_charAt_5068e m_J1_charAt_3b067
  rw [show fm_tl.getD w 0 = tl w from rfl, nu_in hi (by omega), nu_g, nu_cl (by omega), e1, nu_b, e2, nu_g]
theorem ex_len {w : Nat} (σ : fm_M) (hw : w < 12) : m_J0_length_8abf5 w σ = some (nI (tl w), σ) := by
  unfold m_J0_length_8abf5
  rw [tl_len w hw]
theorem ex_readsLoop (kc : Nat → Int32 → fm_M → Option (Int32 × fm_M)) {bt : Nat → Nat} {n s w : Nat} (hb : btOk bt n) (hw : w < 12) (hs : s + tl w ≤ n) : ∀ (m fuel i : Nat) (σ : fm_M), m < fuel → i + m = tl w → tpX σ bt n → σ.1 92 2 = nI s → m_X9_reads_20 kc fuel w (nI i) σ = if alB (fun j => decide (bt (s + j) = ch w j)) m i = true then kc w (nI (tl w)) σ else some (nI 0, σ) := by
  intro m
  have h7 := tl_le w hw
  have hn := hb.1
  induction m with
  | zero =>
    intro fuel i σ hf hi ht h2
    obtain ⟨f, rfl⟩ : ∃ f, fuel = f + 1 := ⟨fuel - 1, by omega⟩
    rw [m_X9_reads_20, ex_len _ hw, nu_b, if_pos (by rw [nu_le (by omega) (by omega)]; omega), alB, if_pos rfl, show i = tl w by omega]
  | succ m ih =>
    intro fuel i σ hf hi ht h2
    obtain ⟨f, rfl⟩ : ∃ f, fuel = f + 1 := ⟨fuel - 1, by omega⟩
    have hi' := hb.2 (s + i) (by omega)
    have hc := (ch_at w hw i (by omega) (by omega)).2.2
    rw [m_X9_reads_20, ex_len _ hw, nu_b, if_neg (by rw [nu_le (by omega) (by omega)]; omega), h2, nI_add, nu_in (by omega) (by decide), nu_g, nu_cl (by omega), ht.2 _ (by omega), ex_charAt _ hw (by omega), nu_b, alB]
    simp only [nu_lit, nI_add]
    by_cases z : bt (s + i) = ch w i
    · rw [if_pos (by rw [z]), ih f (i + 1) σ (by omega) (by omega) ht h2, decide_eq_true z, Bool.true_and]
    · rw [if_neg (by rw [nu_eq (by omega) (by omega)]; exact z), decide_eq_false z, Bool.false_and, if_neg (by decide)]
/-- whether a word stands there -/
def mtW (bt : Nat → Nat) (s l w : Nat) : Bool := decide (tl w = l) && alB (fun j => decide (bt (s + j) = ch w j)) (tl w) 0
theorem ex_reads {bt : Nat → Nat} {n s l w : Nat} {σ : fm_M} (hb : btOk bt n) (hw : w < 12) (hs : s + l ≤ n) (ht : tpX σ bt n) (h2 : σ.1 92 2 = nI s) (h3 : σ.1 92 3 = nI (s + l)) : m_X9_reads w σ = some (if mtW bt s l w = true then nI 1 else nI 0, σ) := by
  have h7 := tl_le w hw
  have hn := hb.1
  unfold m_X9_reads mtW
  rw [ex_len _ hw, nu_b, h2, h3, nu_sub (by omega), Nat.add_sub_cancel_left]
  simp only [nu_lit]
  by_cases z : tl w = l
  · subst z
    rw [if_pos rfl, ex_readsLoop _ hb hw hs (tl w) fm_fu 0 σ (by have := nu_fu; omega) (by omega) ht h2, decide_eq_true rfl, Bool.true_and]
    by_cases y : alB (fun j => decide (bt (s + j) = ch w j)) (tl w) 0 = true
    · rw [if_pos y, if_pos y]
    · rw [if_neg y, if_neg y]
  · rw [if_neg (by rw [nu_eq (by omega) (by omega)]; exact z), decide_eq_false z, Bool.false_and, if_neg (by decide)]
theorem ex_nameOf (σ : fm_M) : ∀ w, w < 12 → m_X9_nameOf (nI w) σ = some (w, σ) := by
  intro w hw
  have h : w = 0 ∨ w = 1 ∨ w = 2 ∨ w = 3 ∨ w = 4 ∨ w = 5 ∨ w = 6 ∨ w = 7 ∨ w = 8 ∨ w = 9 ∨ w = 10 ∨ w = 11 := by omega
  rcases h with rfl | rfl | rfl | rfl | rfl | rfl | rfl | rfl | rfl | rfl | rfl | rfl <;> rfl
/-- the last of some that is so -/
def lwF (p : Nat → Bool) : Nat → Nat → Nat → Nat
  | 0, _, d => d
  | m + 1, i, d => lwF p m (i + 1) (if p i = true then i else d)
theorem lwF_is (p : Nat → Bool) : ∀ (m i d : Nat), (lwF p m i d = d ∧ ∀ j, i ≤ j → j < i + m → p j = false) ∨ (i ≤ lwF p m i d ∧ lwF p m i d < i + m ∧ p (lwF p m i d) = true)
  | 0, i, d => Or.inl ⟨rfl, fun j h1 h2 => by omega⟩
  | m + 1, i, d => by
    rw [lwF]
    by_cases z : p i = true
    · rw [if_pos z]
      rcases lwF_is p m (i + 1) i with ⟨h1, h2⟩ | ⟨h1, h2, h3⟩
      · rw [h1]; exact Or.inr ⟨by omega, by omega, z⟩
      · exact Or.inr ⟨by omega, by omega, h3⟩
    · rw [if_neg z]
      rcases lwF_is p m (i + 1) d with ⟨h1, h2⟩ | ⟨h1, h2, h3⟩
      · refine Or.inl ⟨h1, fun j j1 j2 => ?_⟩
        by_cases y : j = i
        · subst y; simpa using z
        · exact h2 j (by omega) (by omega)
      · exact Or.inr ⟨by omega, by omega, h3⟩
theorem ex_wordLoop {bt : Nat → Nat} {n s l : Nat} (hb : btOk bt n) (hs : s + l ≤ n) : ∀ (m fuel i d : Nat) (σ : fm_M), m < fuel → i + m = 12 → tpX σ bt n → σ.1 92 2 = nI s → σ.1 92 3 = nI (s + l) → σ.1 92 4 = nI d → ∃ σ', (∀ kc : Int32 → fm_M → Option (Unit × fm_M), m_X9_stepOverWord_47 kc fuel (nI i) σ = kc (nI 12) σ') ∧ σ'.1 92 4 = nI (lwF (mtW bt s l) m i d) ∧ fEq (fun a k => a = 92 ∧ k = 4) σ σ' := by
  intro m
  induction m with
  | zero =>
    intro fuel i d σ hf hi ht h2 h3 h4
    obtain ⟨f, rfl⟩ : ∃ f, fuel = f + 1 := ⟨fuel - 1, by omega⟩
    refine ⟨σ, ?_, h4, fEq.rf⟩
    intro kc
    rw [m_X9_stepOverWord_47]
    simp only [nu_lit]
    rw [if_pos (by rw [nu_le (by omega) (by omega)]; omega), show i = 12 by omega]
  | succ m ih =>
    intro fuel i d σ hf hi ht h2 h3 h4
    obtain ⟨f, rfl⟩ : ∃ f, fuel = f + 1 := ⟨fuel - 1, by omega⟩
    rw [lwF]
    by_cases z : mtW bt s l i = true
    · obtain ⟨σ', v1, v2, v3⟩ := ih f (i + 1) i (fm_sI σ 92 4 (nI i)) (by omega) (by omega) (ht.keep (by rw [nu_sI, if_neg (by omega)]) (fun k => by rw [nu_sI, if_neg (by omega)])) (by rw [nu_sI, if_neg (by omega)]; exact h2) (by rw [nu_sI, if_neg (by omega)]; exact h3) (by rw [nu_sI, if_pos ⟨rfl, rfl⟩])
      rw [if_pos z]
      refine ⟨σ', ?_, v2, fEq.tr (S := fun a k => a = 92 ∧ k = 4) (fEq.set (S := fun a k => a = 92 ∧ k = 4) ⟨rfl, rfl⟩) v3 (fun _ _ z => z) (fun _ _ z => z)⟩
      intro kc
      rw [m_X9_stepOverWord_47]
      simp only [nu_lit]
      rw [if_neg (by rw [nu_le (by omega) (by omega)]; omega), ex_nameOf _ i (by omega), nu_b, ex_reads hb (by omega) hs ht h2 h3, nu_b, if_pos z, if_neg nI10, nu_let, nI_add]
      exact v1 kc
    · obtain ⟨σ', v1, v2, v3⟩ := ih f (i + 1) d σ (by omega) (by omega) ht h2 h3 h4
      rw [if_neg z]
      refine ⟨σ', ?_, v2, v3⟩
      intro kc
      rw [m_X9_stepOverWord_47]
      simp only [nu_lit]
      rw [if_neg (by rw [nu_le (by omega) (by omega)]; omega), ex_nameOf _ i (by omega), nu_b, ex_reads hb (by omega) hs ht h2 h3, nu_b, if_neg z, if_pos rfl, nI_add]
      exact v1 kc
-- numbers: the reference's, which stops above 999
def mvD (bt : Nat → Nat) (s : Nat) : Nat → Nat
  | 0 => 0
  | l + 1 => if 999 < mvD bt s l then mvD bt s l else mvD bt s l * 10 + (bt (s + l) - 48)
theorem mvD_le {bt : Nat → Nat} {s : Nat} : ∀ (l : Nat), (∀ i, i < l → bt (s + i) ≤ 57) → mvD bt s l ≤ 9999
  | 0, _ => by rw [mvD]; omega
  | l + 1, h => by
    have h1 := mvD_le l (fun i hi => h i (by omega))
    have h2 := h l (by omega)
    rw [mvD]
    split <;> omega
theorem ex_numLoop {bt : Nat → Nat} {n s : Nat} (hb : btOk bt n) : ∀ (m fuel i : Nat) (σ : fm_M), m < fuel → s + i + m = n → tpX σ bt n → σ.1 92 3 = nI (s + i) → σ.1 92 5 = nI (min 1000 (mvD bt s i)) → ∃ σ', (∀ kc : fm_M → Option (Unit × fm_M), m_X9_stepOverNumber_11 kc fuel σ = kc σ') ∧ σ'.1 92 3 = nI (tf (nd bt) m (s + i)) ∧ σ'.1 92 5 = nI (min 1000 (mvD bt s (tf (nd bt) m (s + i) - s))) ∧ fEq (fun a k => a = 92 ∧ (k = 3 ∨ k = 5)) σ σ' := by
  intro m
  induction m with
  | zero =>
    intro fuel i σ hf hi ht h3 h5
    obtain ⟨f, rfl⟩ : ∃ f, fuel = f + 1 := ⟨fuel - 1, by omega⟩
    have := hb.1
    refine ⟨σ, ?_, h3, ?_, fEq.rf⟩
    · intro kc
      rw [m_X9_stepOverNumber_11, ht.1, h3, if_pos (by rw [nu_le (by omega) (by omega)]; omega)]
    · rw [tf, Nat.add_sub_cancel_left]; exact h5
  | succ m ih =>
    intro fuel i σ hf hi ht h3 h5
    obtain ⟨f, rfl⟩ : ∃ f, fuel = f + 1 := ⟨fuel - 1, by omega⟩
    have hn := hb.1
    have hi' := hb.2 (s + i) (by omega)
    by_cases z : isD (bt (s + i)) = true
    · have z2 := isD_ok z
      have tb : ¬ nd bt (s + i) = true := by simp [nd, z]
      obtain ⟨σ', v1, v2, v3, v4⟩ := ih f (i + 1) (fm_sI (fm_sI σ 92 5 (nI (min 1000 (mvD bt s (i + 1))))) 92 3 (nI (s + i + 1))) (by omega) (by omega) (ht.keep (by rw [nu_sI, if_neg (by omega), nu_sI, if_neg (by omega)]) (fun k => by rw [nu_sI, if_neg (by omega), nu_sI, if_neg (by omega)])) (by rw [nu_sI, if_pos ⟨rfl, rfl⟩, Nat.add_assoc]) (by rw [nu_sI, if_neg (by omega), nu_sI, if_pos ⟨rfl, rfl⟩])
      rw [tf, if_neg tb]
      refine ⟨σ', ?_, v2, v3, ?_⟩
      · have e : (if nI (min 1000 (mvD bt s i) * 10 + bt (s + i) - 48) < nI 1000 then nI (min 1000 (mvD bt s i) * 10 + bt (s + i) - 48) else nI 1000) = nI (min 1000 (mvD bt s (i + 1))) := by
          simp only [nu_lt (show min 1000 (mvD bt s i) * 10 + bt (s + i) - 48 < 2 ^ 30 by omega) (show 1000 < 2 ^ 30 by decide)]
          rw [mvD]
          by_cases y : min 1000 (mvD bt s i) * 10 + bt (s + i) - 48 < 1000
          · rw [if_pos y]
            congr 1
            split <;> omega
          · rw [if_neg y]
            congr 1
            split <;> omega
        have e3 : ∀ v, (fm_sI σ 92 5 v).1 92 3 = nI (s + i) := fun v => by rw [nu_sI, if_neg (by omega)]; exact h3
        intro kc
        rw [m_X9_stepOverNumber_11]
        simp only [nu_lit]
        rw [ht.1, h3, if_neg (by rw [nu_le (by omega) (by omega)]; omega), nu_in (by omega) (by decide), nu_g, nu_cl (by omega), ht.2 _ (by omega), ex_isDigit _ hi', nu_b, if_pos z, if_neg nI10, h3, nu_in (by omega) (by decide), nu_g, nu_cl (by omega), ht.2 _ (by omega), h5, pk_mul, nI_add, nu_sub (by omega), e, nu_let, e3, nI_add, nu_let]
        exact v1 kc
      · have s1 : fEq (fun a k => a = 92 ∧ (k = 3 ∨ k = 5)) σ (fm_sI σ 92 5 (nI (min 1000 (mvD bt s (i + 1))))) := fEq.set ⟨rfl, Or.inr rfl⟩
        have s2 : fEq (fun a k => a = 92 ∧ (k = 3 ∨ k = 5)) (fm_sI σ 92 5 (nI (min 1000 (mvD bt s (i + 1))))) (fm_sI (fm_sI σ 92 5 (nI (min 1000 (mvD bt s (i + 1))))) 92 3 (nI (s + i + 1))) := fEq.set ⟨rfl, Or.inl rfl⟩
        exact fEq.tr (S := fun a k => a = 92 ∧ (k = 3 ∨ k = 5)) (fEq.tr (S := fun a k => a = 92 ∧ (k = 3 ∨ k = 5)) s1 s2 (fun _ _ z => z) (fun _ _ z => z)) v4 (fun _ _ z => z) (fun _ _ z => z)
    · have tb : nd bt (s + i) = true := by simp [nd, z]
      rw [tf, if_pos tb]
      refine ⟨σ, ?_, h3, ?_, fEq.rf⟩
      · intro kc
        rw [m_X9_stepOverNumber_11]
        simp only [nu_lit]
        rw [ht.1, h3, if_neg (by rw [nu_le (by omega) (by omega)]; omega), nu_in (by omega) (by decide), nu_g, nu_cl (by omega), ht.2 _ (by omega), ex_isDigit _ hi', nu_b, if_neg z, if_pos rfl]
      · rw [Nat.add_sub_cancel_left]; exact h5
