/-! tokens: a step on both sides -/
def x_rest (σ7 : fm_M) : Option (Unit × fm_M) := (if (σ7.1 92 2) < (σ7.1 92 1) then (fm_g (fm_in1 (σ7.1 92 3) 120) (fm_b (m_X9_isLetter (σ7.1 93 (σ7.1 92 3).toNatClampNeg) σ7) fun r10 σ11 => (if r10 = 0 then (fm_g (fm_in1 (σ11.1 92 3) 120) (fm_b (m_X9_isDigit (σ11.1 93 (σ11.1 92 3).toNatClampNeg) σ11) fun r14 σ15 => (if r14 = 0 then (fm_g (fm_in1 (σ15.1 92 2) 120) (fm_j (fun (v0_J18 : Int32) (σ_J18 : fm_M) => fm_let (fm_sI σ_J18 92 4 v0_J18) fun σ19 => (fm_let (fm_sI σ19 92 3 ((σ19.1 92 3) + (1 : Int32))) fun σ21 => (some ((), σ21)))) (fun J18 => if (σ15.1 93 (σ15.1 92 2).toNatClampNeg) = (59 : Int32) then (J18 (12 : Int32) σ15) else (J18 (15 : Int32) σ15)))) else (fm_b (m_X9_stepOverNumber  σ15) fun _u23 σ24 => (some ((), σ24)))))) else (fm_b (m_X9_stepOverWord  σ11) fun _u26 σ27 => (some ((), σ27)))))) else (fm_let (fm_sI σ7 92 4 (14 : Int32)) fun σ29 => (some ((), σ29))))
def m_rest (σ9 : fm_M) : Option (Unit × fm_M) := (if (σ9.1 96 10) = (σ9.1 96 8) then (fm_let (fm_sI σ9 96 9 (0 : Int32)) fun σ52 => (some ((), σ52))) else (fm_g (fm_in1 (σ9.1 96 10) 120) (fm_b (m_X12_isLetter (σ9.1 102 (σ9.1 96 10).toNatClampNeg) σ9) fun r12 σ13 => (if r12 = 0 then (fm_g (fm_in1 (σ13.1 96 10) 120) (fm_b (m_X12_isDigit (σ13.1 102 (σ13.1 96 10).toNatClampNeg) σ13) fun r16 σ17 => (if r16 = 0 then (fm_g (fm_in1 (σ17.1 96 10) 120) (fm_j (fun (v0_J20 : Int32) (σ_J20 : fm_M) => fm_let (fm_sI σ_J20 96 9 v0_J20) fun σ21 => (fm_let (fm_sI σ21 96 11 ((σ21.1 96 11) + (1 : Int32))) fun σ23 => (some ((), σ23)))) (fun J20 => if (σ17.1 102 (σ17.1 96 10).toNatClampNeg) = (59 : Int32) then (J20 (3 : Int32) σ17) else (J20 (4 : Int32) σ17)))) else (m_X12_nextToken_197 (fun  (σ_y35 : fm_M) => fm_j (fun (v0_J36 : Int32) (σ_J36 : fm_M) => fm_let (fm_sI σ_J36 96 9 v0_J36) fun σ37 => (some ((), σ37))) (fun J36 => if (lg_cmp (σ_y35.2 96 12) (999 : Int64)) ≤ 0 then (J36 (2 : Int32) σ_y35) else (J36 (4 : Int32) σ_y35))) fm_fu  σ17)))) else (fm_let (fm_sI σ13 96 9 (1 : Int32)) fun σ39 => (m_X12_nextToken_98 (fun  (σ_y51 : fm_M) => some ((), σ_y51)) fm_fu  σ39))))))
def sTX : Nat → Nat → Prop := fun a k => a = 92 ∧ 2 ≤ k
def sTM : Nat → Nat → Prop := fun a k => a = 96 ∧ 9 ≤ k
theorem iC.keep {σ σ' : fm_M} (h : iC σ) (hf : ∀ a k, 103 ≤ a → a ≤ 105 → σ'.1 a k = σ.1 a k) : iC σ' := ⟨fun k hk => by rw [hf _ _ (by omega) (by omega)]; exact h.1 k hk, fun k hk => by rw [hf _ _ (by omega) (by omega)]; exact h.2.1 k hk, fun k hk => by rw [hf _ _ (by omega) (by omega)]; exact h.2.2 k hk⟩
theorem ex_step0 {bt : Nat → Nat} {n e : Nat} {σ : fm_M} (hb : btOk bt n) (he : e ≤ n) (ht : tpX σ bt n) (h3 : σ.1 92 3 = nI e) : ∃ τ, tpX τ bt n ∧ τ.1 92 2 = nI (tf (nb bt) (n - e) e) ∧ τ.1 92 3 = nI (tf (nb bt) (n - e) e) ∧ fEq sTX σ τ ∧ m_X9_step σ = x_rest τ := by
  have hn := hb.1
  obtain ⟨σ1, v1, v2, v3⟩ := ex_skip hb (n - e) fm_fu e (fm_sI σ 92 2 (σ.1 92 3)) (by have := nu_fu; omega) (by omega) (ht.keep (by rw [nu_sI, if_neg (by omega)]) (fun k => by rw [nu_sI, if_neg (by omega)])) (by rw [nu_sI, if_pos ⟨rfl, rfl⟩]; exact h3)
  have f1 : fEq sTX σ σ1 := fEq.tr (S := sTX) (fEq.set (S := sTX) ⟨rfl, by omega⟩) v3 (fun _ _ z => z) (fun a k z => ⟨z.1, by omega⟩)
  refine ⟨fm_sI σ1 92 3 (σ1.1 92 2), ht.keep ?_ (fun k => ?_), ?_, ?_, ?_, ?_⟩
  · rw [nu_sI, if_neg (by omega), f1.1 _ _ (by unfold sTX; omega)]
  · rw [nu_sI, if_neg (by omega), f1.1 _ _ (by unfold sTX; omega)]
  · rw [nu_sI, if_neg (by omega)]; exact v2
  · rw [nu_sI, if_pos ⟨rfl, rfl⟩]; exact v2
  · exact fEq.tr (S := sTX) f1 (fEq.set (S := sTX) ⟨rfl, by omega⟩) (fun _ _ z => z) (fun _ _ z => z)
  · unfold m_X9_step
    rw [nu_let, v1, nu_let]
    rfl
theorem em_next0 {bt : Nat → Nat} {n e : Nat} {σ : fm_M} (hb : btOk bt n) (he : e ≤ n) (ht : tpM σ bt n) (hc : iC σ) (h3 : σ.1 96 11 = nI e) : ∃ τ, tpM τ bt n ∧ iC τ ∧ τ.1 96 10 = nI (tf (nb bt) (n - e) e) ∧ τ.1 96 11 = nI (tf (nb bt) (n - e) e) ∧ τ.2 96 12 = lN 0 ∧ fE2 sTM σ τ ∧ m_X12_nextToken σ = m_rest τ := by
  have hn := hb.1
  obtain ⟨σ1, v1, v2, v3⟩ := em_skip hb (n - e) fm_fu e (fm_sI σ 96 10 (σ.1 96 11)) (by have := nu_fu; omega) (by omega) (ht.keep (by rw [nu_sI, if_neg (by omega)]) (fun k => by rw [nu_sI, if_neg (by omega)])) (by rw [nu_sI, if_pos ⟨rfl, rfl⟩]; exact h3)
  have f1 : fEq sTM σ σ1 := fEq.tr (S := sTM) (fEq.set (S := sTM) ⟨rfl, by omega⟩) v3 (fun _ _ z => z) (fun a k z => ⟨z.1, by omega⟩)
  have e1 : ∀ a k, ¬ (a = 96 ∧ 9 ≤ k) → (fm_sL (fm_sI σ1 96 11 (σ1.1 96 10)) 96 12 (lN 0)).1 a k = σ.1 a k := fun a k z => by rw [nu_sL1, nu_sI, if_neg (by omega), f1.1 _ _ z]
  refine ⟨fm_sL (fm_sI σ1 96 11 (σ1.1 96 10)) 96 12 (lN 0), ht.keep (e1 _ _ (by omega)) (fun k => e1 _ _ (by omega)), hc.keep (fun a k i1 i2 => e1 _ _ (by omega)), ?_, ?_, ?_, ⟨e1, fun a k z => ?_⟩, ?_⟩
  · rw [nu_sL1, nu_sI, if_neg (by omega)]; exact v2
  · rw [nu_sL1, nu_sI, if_pos ⟨rfl, rfl⟩]; exact v2
  · rw [nu_sL, if_pos ⟨rfl, rfl⟩]
  · rw [nu_sL, if_neg z, nu_sI2, f1.2]
  · unfold m_X12_nextToken
    rw [nu_let, v1, nu_let, nu_let]
    rfl
def tkX (σ : fm_M) (bt : Nat → Nat) (n s e t v : Nat) : Prop := tpX σ bt n ∧ σ.1 92 2 = nI s ∧ σ.1 92 3 = nI e ∧ σ.1 92 4 = nI t ∧ (t = 13 → σ.1 92 5 = nI v)
def tkM (σ : fm_M) (bt : Nat → Nat) (n s e t v : Nat) : Prop := tpM σ bt n ∧ iC σ ∧ σ.1 96 10 = nI s ∧ σ.1 96 11 = nI e ∧ tkC t v (σ.1 96 9) (σ.2 96 12)
def tkO (n s e t v : Nat) : Prop := s ≤ e ∧ e ≤ n ∧ (t ≠ 14 → s < e) ∧ v ≤ 1000 ∧ t ≤ 15
theorem tf_gt {p : Nat → Bool} {m i : Nat} (hm : 0 < m) (hp : ¬ p i = true) : i + 1 ≤ tf p m i := by
  obtain ⟨k, rfl⟩ : ∃ k, m = k + 1 := ⟨m - 1, by omega⟩
  rw [tf, if_neg hp]
  exact tf_ge p k (i + 1)
theorem ex_stepEnd {bt : Nat → Nat} {n : Nat} {τ : fm_M} (ht : tpX τ bt n) (h2 : τ.1 92 2 = nI n) (h3 : τ.1 92 3 = nI n) (hn : n ≤ 120) : ∃ σ', x_rest τ = some ((), σ') ∧ tkX σ' bt n n n 14 0 ∧ fEq sTX τ σ' := by
  refine ⟨fm_sI τ 92 4 (nI 14), ?_, ⟨ht.keep (by rw [nu_sI, if_neg (by omega)]) (fun k => by rw [nu_sI, if_neg (by omega)]), by rw [nu_sI, if_neg (by omega)]; exact h2, by rw [nu_sI, if_neg (by omega)]; exact h3, by rw [nu_sI, if_pos ⟨rfl, rfl⟩], fun z => absurd z (by decide)⟩, fEq.set ⟨rfl, by omega⟩⟩
  unfold x_rest
  simp only [nu_lit]
  rw [h2, ht.1, if_neg (by rw [nu_lt (by omega) (by omega)]; omega), nu_let]
theorem em_nextEnd {bt : Nat → Nat} {n : Nat} {τ : fm_M} (ht : tpM τ bt n) (hc : iC τ) (h2 : τ.1 96 10 = nI n) (h3 : τ.1 96 11 = nI n) (hn : n ≤ 120) : ∃ σ', m_rest τ = some ((), σ') ∧ tkM σ' bt n n n 14 0 ∧ fE2 sTM τ σ' := by
  have e1 : ∀ a k, ¬ (a = 96 ∧ k = 9) → (fm_sI τ 96 9 (nI 0)).1 a k = τ.1 a k := fun a k z => by rw [nu_sI, if_neg z]
  refine ⟨fm_sI τ 96 9 (nI 0), ?_, ⟨ht.keep (e1 _ _ (by omega)) (fun k => e1 _ _ (by omega)), hc.keep (fun a k i1 i2 => e1 _ _ (by omega)), by rw [e1 _ _ (by omega)]; exact h2, by rw [e1 _ _ (by omega)]; exact h3, Or.inr (Or.inr (Or.inr (Or.inr (Or.inr (Or.inl ⟨rfl, by rw [nu_sI, if_pos ⟨rfl, rfl⟩]⟩)))))⟩, fE2.of (fEq.set ⟨rfl, by omega⟩)⟩
  unfold m_rest
  simp only [nu_lit]
  rw [h2, ht.1, if_pos rfl, nu_let]
theorem ex_stepWord {bt : Nat → Nat} {n s : Nat} {τ : fm_M} (hb : btOk bt n) (hs : s < n) (hl : isL (bt s) = true) (ht : tpX τ bt n) (h2 : τ.1 92 2 = nI s) (h3 : τ.1 92 3 = nI s) : ∃ σ', x_rest τ = some ((), σ') ∧ tkX σ' bt n s (tf (nl bt) (n - s) s) (lwF (mtW bt s (tf (nl bt) (n - s) s - s)) 12 0 15) 0 ∧ fEq sTX τ σ' := by
  have hn := hb.1
  have hi' := hb.2 s hs
  have g1 := tf_ge (nl bt) (n - s) s
  have g2 := tf_le (nl bt) (n - s) s
  obtain ⟨σ1, v1, v2, v3⟩ := ex_wordEnd hb (n - s) fm_fu s τ (by have := nu_fu; omega) (by omega) ht h3
  have e1 : ∀ a k, ¬ (a = 92 ∧ k = 3) → ¬ (a = 92 ∧ k = 4) → (fm_sI σ1 92 4 (nI 15)).1 a k = τ.1 a k := fun a k z y => by rw [nu_sI, if_neg y, v3.1 _ _ z]
  obtain ⟨σ2, w1, w2, w3⟩ := ex_wordLoop (s := s) (l := tf (nl bt) (n - s) s - s) hb (by omega) 12 fm_fu 0 15 (fm_sI σ1 92 4 (nI 15)) (by have := nu_fu; omega) (by omega) (ht.keep (e1 _ _ (by omega) (by omega)) (fun k => e1 _ _ (by omega) (by omega))) (by rw [e1 _ _ (by omega) (by omega)]; exact h2) (by rw [nu_sI, if_neg (by omega), v2]; congr 1; omega) (by rw [nu_sI, if_pos ⟨rfl, rfl⟩])
  have f2 : fEq sTX τ σ2 := fEq.tr (S := sTX) (fEq.tr (S := sTX) v3 (fEq.set (S := sTX) ⟨rfl, by omega⟩) (fun a k z => ⟨z.1, by omega⟩) (fun _ _ z => z)) w3 (fun _ _ z => z) (fun a k z => ⟨z.1, by omega⟩)
  refine ⟨σ2, ?_, ⟨ht.keep (f2.1 _ _ (by unfold sTX; omega)) (fun k => f2.1 _ _ (by unfold sTX; omega)), ?_, ?_, w2, fun z => ?_⟩, f2⟩
  · unfold x_rest
    simp only [nu_lit, nu_j]
    rw [h2, ht.1, if_pos (by rw [nu_lt (by omega) (by omega)]; exact hs), h3, nu_in (by omega) (by decide), nu_g, nu_cl (by omega), ht.2 _ hs, ex_isLetter _ hi', nu_b, if_pos hl, if_neg nI10]
    unfold m_X9_stepOverWord
    simp only [nu_lit]
    rw [v1, nu_let, w1, nu_b]
  · rw [w3.1 _ _ (by omega), e1 _ _ (by omega) (by omega)]; exact h2
  · rw [w3.1 _ _ (by omega), nu_sI, if_neg (by omega)]; exact v2
  · rcases lwF_is (mtW bt s (tf (nl bt) (n - s) s - s)) 12 0 15 with ⟨y, -⟩ | ⟨-, y, -⟩ <;> omega
theorem em_nextWord {bt : Nat → Nat} {n s : Nat} {τ : fm_M} (hb : btOk bt n) (hs : s < n) (hl : isL (bt s) = true) (ht : tpM τ bt n) (hc : iC τ) (h2 : τ.1 96 10 = nI s) (h3 : τ.1 96 11 = nI s) (h12 : τ.2 96 12 = lN 0) : ∃ σ', m_rest τ = some ((), σ') ∧ tkM σ' bt n s (tf (nl bt) (n - s) s) (lwF (mtW bt s (tf (nl bt) (n - s) s - s)) 12 0 15) 0 ∧ fE2 sTM τ σ' := by
  have hn := hb.1
  have hi' := hb.2 s hs
  have g1 := tf_ge (nl bt) (n - s) s
  have g2 := tf_le (nl bt) (n - s) s
  have e1 : ∀ a k, ¬ (a = 96 ∧ k = 9) → (fm_sI τ 96 9 (nI 1)).1 a k = τ.1 a k := fun a k z => by rw [nu_sI, if_neg z]
  obtain ⟨σ1, v1, v2, v3, v4⟩ := em_wordLoop (s := s) hb (n - s) fm_fu 0 (fm_sI τ 96 9 (nI 1)) (by have := nu_fu; omega) (by omega) (fun j hj => by omega) (ht.keep (e1 _ _ (by omega)) (fun k => e1 _ _ (by omega))) (by rw [e1 _ _ (by omega)]; exact h3) (by rw [nu_sI2, h12]; rfl)
  rw [Nat.add_zero] at v2 v3
  have f2 : fE2 sTM τ σ1 := fE2.tr (S := sTM) (fE2.of (fEq.set (S := sTM) ⟨rfl, by omega⟩)) v4 (fun _ _ z => z) (fun a k z => ⟨z.1, by omega⟩)
  refine ⟨σ1, ?_, ⟨ht.keep (f2.1 _ _ (by unfold sTM; omega)) (fun k => f2.1 _ _ (by unfold sTM; omega)), hc.keep (fun a k i1 i2 => f2.1 _ _ (by unfold sTM; omega)), ?_, v2, ?_⟩, f2⟩
  · unfold m_rest
    simp only [nu_lit, nu_j]
    rw [h2, ht.1, if_neg (by rw [nu_eq (by omega) (by omega)]; omega), nu_in (by omega) (by decide), nu_g, nu_cl (by omega), ht.2 _ hs, em_isLetter _ hi', nu_b, if_pos hl, if_neg nI10, nu_let, v1]
  · rw [v4.1 _ _ (by omega), e1 _ _ (by omega)]; exact h2
  · have h9 : σ1.1 96 9 = nI 1 := by rw [v4.1 _ _ (by omega), nu_sI, if_pos ⟨rfl, rfl⟩]
    have lt : ∀ i, i < tf (nl bt) (n - s) s - s → 97 ≤ bt (s + i) ∧ bt (s + i) ≤ 122 := fun i hi => by
      have := tf_no (nl bt) (n - s) s (s + i) (by omega) (by omega)
      exact isL_ok (by simpa [nl] using this)
    have bd := mvW_le (f := bt) (s := s) (tf (nl bt) (n - s) s - s) (fun i hi => (lt i hi).2)
    rcases lwF_is (mtW bt s (tf (nl bt) (n - s) s - s)) 12 0 15 with ⟨y1, y2⟩ | ⟨-, y2, y3⟩
    · refine Or.inr (Or.inl ⟨y1, h9, fun w hw q => ?_⟩)
      have := cwN_le w hw
      rw [v3, pk_lEQ (by omega) (by omega)] at q
      have y := y2 w (by omega) (by omega)
      rw [(mtW_iff hw lt).mpr q] at y
      exact absurd y (by decide)
    · exact Or.inl ⟨by omega, h9, by rw [v3, (mtW_iff (by omega) lt).mp y3]⟩
theorem ex_stepNum {bt : Nat → Nat} {n s : Nat} {τ : fm_M} (hb : btOk bt n) (hs : s < n) (hl : ¬ isL (bt s) = true) (hd : isD (bt s) = true) (ht : tpX τ bt n) (h2 : τ.1 92 2 = nI s) (h3 : τ.1 92 3 = nI s) : ∃ σ', x_rest τ = some ((), σ') ∧ tkX σ' bt n s (tf (nd bt) (n - s) s) 13 (min 1000 (mvD bt s (tf (nd bt) (n - s) s - s))) ∧ fEq sTX τ σ' := by
  have hn := hb.1
  have hi' := hb.2 s hs
  have e1 : ∀ a k, ¬ (a = 92 ∧ (k = 4 ∨ k = 5)) → (fm_sI (fm_sI τ 92 4 (nI 13)) 92 5 (nI 0)).1 a k = τ.1 a k := fun a k z => by rw [nu_sI, if_neg (by omega), nu_sI, if_neg (by omega)]
  obtain ⟨σ1, v1, v2, v3, v4⟩ := ex_numLoop (s := s) hb (n - s) fm_fu 0 (fm_sI (fm_sI τ 92 4 (nI 13)) 92 5 (nI 0)) (by have := nu_fu; omega) (by omega) (ht.keep (e1 _ _ (by omega)) (fun k => e1 _ _ (by omega))) (by rw [e1 _ _ (by omega)]; exact h3) (by rw [nu_sI, if_pos ⟨rfl, rfl⟩]; rfl)
  rw [Nat.add_zero] at v2 v3
  have f0 : fEq sTX τ (fm_sI (fm_sI τ 92 4 (nI 13)) 92 5 (nI 0)) := ⟨fun a k z => e1 a k (fun y => z ⟨y.1, by omega⟩), rfl⟩
  have f2 : fEq sTX τ σ1 := fEq.tr (S := sTX) f0 v4 (fun _ _ z => z) (fun a k z => ⟨z.1, by omega⟩)
  refine ⟨σ1, ?_, ⟨ht.keep (f2.1 _ _ (by unfold sTX; omega)) (fun k => f2.1 _ _ (by unfold sTX; omega)), ?_, v2, ?_, fun _ => v3⟩, f2⟩
  · unfold x_rest
    simp only [nu_lit, nu_j]
    rw [h2, ht.1, if_pos (by rw [nu_lt (by omega) (by omega)]; exact hs), h3, nu_in (by omega) (by decide), nu_g, nu_cl (by omega), ht.2 _ hs, ex_isLetter _ hi', nu_b, if_neg hl, if_pos rfl, h3, nu_in (by omega) (by decide), nu_g, nu_cl (by omega), ht.2 _ hs, ex_isDigit _ hi', nu_b, if_pos hd, if_neg nI10]
    unfold m_X9_stepOverNumber
    simp only [nu_lit]
    rw [nu_let, nu_let, v1, nu_b]
  · rw [v4.1 _ _ (by omega), e1 _ _ (by omega)]; exact h2
  · rw [v4.1 _ _ (by omega), nu_sI, if_neg (by omega), nu_sI, if_pos ⟨rfl, rfl⟩]
theorem em_nextNum {bt : Nat → Nat} {n s : Nat} {τ : fm_M} (hb : btOk bt n) (hs : s < n) (hl : ¬ isL (bt s) = true) (hd : isD (bt s) = true) (ht : tpM τ bt n) (hc : iC τ) (h2 : τ.1 96 10 = nI s) (h3 : τ.1 96 11 = nI s) (h12 : τ.2 96 12 = lN 0) : ∃ σ', m_rest τ = some ((), σ') ∧ tkM σ' bt n s (tf (nd bt) (n - s) s) 13 (min 1000 (mvD bt s (tf (nd bt) (n - s) s - s))) ∧ fE2 sTM τ σ' := by
  have hn := hb.1
  have hi' := hb.2 s hs
  have g1 := tf_ge (nd bt) (n - s) s
  have g2 := tf_le (nd bt) (n - s) s
  obtain ⟨σ1, v1, v2, v3, v4⟩ := em_numLoop (s := s) hb (n - s) fm_fu 0 τ (by have := nu_fu; omega) (by omega) (fun j hj => by omega) ht h3 h12
  rw [Nat.add_zero] at v2 v3
  have lt : ∀ i, i < tf (nd bt) (n - s) s - s → bt (s + i) ≤ 57 := fun i hi => by
    have := tf_no (nd bt) (n - s) s (s + i) (by omega) (by omega)
    exact (isD_ok (by simpa [nd] using this)).2
  have bd := mvD_le (bt := bt) (s := s) (tf (nd bt) (n - s) s - s) lt
  have go : ∀ w : Int32, tkC 13 (min 1000 (mvD bt s (tf (nd bt) (n - s) s - s))) w (lN (mvD bt s (tf (nd bt) (n - s) s - s))) → (∃ σ', some ((), fm_sI σ1 96 9 w) = some ((), σ') ∧ tkM σ' bt n s (tf (nd bt) (n - s) s) 13 (min 1000 (mvD bt s (tf (nd bt) (n - s) s - s))) ∧ fE2 sTM τ σ') := by
    intro w hw
    have f2 : fE2 sTM τ (fm_sI σ1 96 9 w) := fE2.tr (S := sTM) v4 (fE2.of (fEq.set (S := sTM) ⟨rfl, by omega⟩)) (fun a k z => ⟨z.1, by omega⟩) (fun _ _ z => z)
    refine ⟨_, rfl, ⟨ht.keep (f2.1 _ _ (by unfold sTM; omega)) (fun k => f2.1 _ _ (by unfold sTM; omega)), hc.keep (fun a k i1 i2 => f2.1 _ _ (by unfold sTM; omega)), ?_, ?_, ?_⟩, f2⟩
    · rw [nu_sI, if_neg (by omega), v4.1 _ _ (by omega)]; exact h2
    · rw [nu_sI, if_neg (by omega)]; exact v2
    · rw [nu_sI, if_pos ⟨rfl, rfl⟩, nu_sI2, v3]; exact hw
  have pre : m_rest τ = if lg_cmp (lN (mvD bt s (tf (nd bt) (n - s) s - s))) (lN 999) ≤ nI 0 then some ((), fm_sI σ1 96 9 (nI 2)) else some ((), fm_sI σ1 96 9 (nI 4)) := by
    unfold m_rest
    simp only [nu_lit, nu_j, nu_litL]
    rw [h2, ht.1, if_neg (by rw [nu_eq (by omega) (by omega)]; omega), nu_in (by omega) (by decide), nu_g, nu_cl (by omega), ht.2 _ hs, em_isLetter _ hi', nu_b, if_neg hl, if_pos rfl, h2, nu_in (by omega) (by decide), nu_g, nu_cl (by omega), ht.2 _ hs, em_isDigit _ hi', nu_b, if_pos hd, if_neg nI10, v1, v3, nu_let, nu_let]
  rw [pre]
  by_cases y : 999 < mvD bt s (tf (nd bt) (n - s) s - s)
  · rw [if_neg (fun q => by
      have := (pk_lLE (by omega) (by omega)).mp ((lgLE _ _).mp q)
      omega)]
    exact go _ (Or.inr (Or.inr (Or.inr (Or.inr (Or.inl ⟨rfl, by omega, rfl⟩)))))
  · rw [if_pos ((lgLE _ _).mpr ((pk_lLE (by omega) (by omega)).mpr (by omega)))]
    exact go _ (Or.inr (Or.inr (Or.inr (Or.inl ⟨rfl, by omega, rfl, by congr 1; omega⟩))))
theorem ex_stepSign {bt : Nat → Nat} {n s : Nat} {τ : fm_M} (hb : btOk bt n) (hs : s < n) (hl : ¬ isL (bt s) = true) (hd : ¬ isD (bt s) = true) (ht : tpX τ bt n) (h2 : τ.1 92 2 = nI s) (h3 : τ.1 92 3 = nI s) : ∃ σ', x_rest τ = some ((), σ') ∧ tkX σ' bt n s (s + 1) (if bt s = 59 then 12 else 15) 0 ∧ fEq sTX τ σ' := by
  have hn := hb.1
  have hi' := hb.2 s hs
  have e3 : ∀ v, (fm_sI τ 92 4 v).1 92 3 = nI s := fun v => by rw [nu_sI, if_neg (by omega)]; exact h3
  have pre : x_rest τ = some ((), fm_sI (fm_sI τ 92 4 (nI (if bt s = 59 then 12 else 15))) 92 3 (nI (s + 1))) := by
    unfold x_rest
    simp only [nu_lit, nu_j]
    rw [h2, ht.1, if_pos (by rw [nu_lt (by omega) (by omega)]; exact hs), h3, nu_in (by omega) (by decide), nu_g, nu_cl (by omega), ht.2 _ hs, ex_isLetter _ hi', nu_b, if_neg hl, if_pos rfl, h3, nu_in (by omega) (by decide), nu_g, nu_cl (by omega), ht.2 _ hs, ex_isDigit _ hi', nu_b, if_neg hd, if_pos rfl, h2, nu_in (by omega) (by decide), nu_g, nu_cl (by omega), ht.2 _ hs]
    by_cases y : bt s = 59
    · rw [if_pos (by rw [y]), if_pos y, nu_let, e3, nI_add, nu_let]
    · rw [if_neg (by rw [nu_eq (by omega) (by decide)]; exact y), if_neg y, nu_let, e3, nI_add, nu_let]
  rw [pre]
  have e1 : ∀ a k, ¬ (a = 92 ∧ (k = 3 ∨ k = 4)) → (fm_sI (fm_sI τ 92 4 (nI (if bt s = 59 then 12 else 15))) 92 3 (nI (s + 1))).1 a k = τ.1 a k := fun a k z => by rw [nu_sI, if_neg (by omega), nu_sI, if_neg (by omega)]
  refine ⟨_, rfl, ⟨ht.keep (e1 _ _ (by omega)) (fun k => e1 _ _ (by omega)), by rw [e1 _ _ (by omega)]; exact h2, by rw [nu_sI, if_pos ⟨rfl, rfl⟩], by rw [nu_sI, if_neg (by omega), nu_sI, if_pos ⟨rfl, rfl⟩], fun z => ?_⟩, ⟨fun a k z => e1 a k (fun y => z ⟨y.1, by omega⟩), rfl⟩⟩
  split at z <;> omega
theorem em_nextSign {bt : Nat → Nat} {n s : Nat} {τ : fm_M} (hb : btOk bt n) (hs : s < n) (hl : ¬ isL (bt s) = true) (hd : ¬ isD (bt s) = true) (ht : tpM τ bt n) (hc : iC τ) (h2 : τ.1 96 10 = nI s) (h3 : τ.1 96 11 = nI s) : ∃ σ', m_rest τ = some ((), σ') ∧ tkM σ' bt n s (s + 1) (if bt s = 59 then 12 else 15) 0 ∧ fE2 sTM τ σ' := by
  have hn := hb.1
  have hi' := hb.2 s hs
  have e3 : ∀ v, (fm_sI τ 96 9 v).1 96 11 = nI s := fun v => by rw [nu_sI, if_neg (by omega)]; exact h3
  have pre : m_rest τ = some ((), fm_sI (fm_sI τ 96 9 (nI (if bt s = 59 then 3 else 4))) 96 11 (nI (s + 1))) := by
    unfold m_rest
    simp only [nu_lit, nu_j]
    rw [h2, ht.1, if_neg (by rw [nu_eq (by omega) (by omega)]; omega), nu_in (by omega) (by decide), nu_g, nu_cl (by omega), ht.2 _ hs, em_isLetter _ hi', nu_b, if_neg hl, if_pos rfl, h2, nu_in (by omega) (by decide), nu_g, nu_cl (by omega), ht.2 _ hs, em_isDigit _ hi', nu_b, if_neg hd, if_pos rfl, h2, nu_in (by omega) (by decide), nu_g, nu_cl (by omega), ht.2 _ hs]
    by_cases y : bt s = 59
    · rw [if_pos (by rw [y]), if_pos y, nu_let, e3, nI_add, nu_let]
    · rw [if_neg (by rw [nu_eq (by omega) (by decide)]; exact y), if_neg y, nu_let, e3, nI_add, nu_let]
  rw [pre]
  have e1 : ∀ a k, ¬ (a = 96 ∧ (k = 9 ∨ k = 11)) → (fm_sI (fm_sI τ 96 9 (nI (if bt s = 59 then 3 else 4))) 96 11 (nI (s + 1))).1 a k = τ.1 a k := fun a k z => by rw [nu_sI, if_neg (by omega), nu_sI, if_neg (by omega)]
  refine ⟨_, rfl, ⟨ht.keep (e1 _ _ (by omega)) (fun k => e1 _ _ (by omega)), hc.keep (fun a k i1 i2 => e1 _ _ (by omega)), by rw [e1 _ _ (by omega)]; exact h2, by rw [nu_sI, if_pos ⟨rfl, rfl⟩], ?_⟩, ⟨fun a k z => e1 a k (fun y => z ⟨y.1, by omega⟩), fun _ _ _ => rfl⟩⟩
  have h9 : (fm_sI (fm_sI τ 96 9 (nI (if bt s = 59 then 3 else 4))) 96 11 (nI (s + 1))).1 96 9 = nI (if bt s = 59 then 3 else 4) := by rw [nu_sI, if_neg (by omega), nu_sI, if_pos ⟨rfl, rfl⟩]
  rw [h9]
  by_cases y : bt s = 59
  · rw [if_pos y, if_pos y]; exact Or.inr (Or.inr (Or.inl ⟨rfl, rfl⟩))
  · rw [if_neg y, if_neg y]; exact Or.inr (Or.inr (Or.inr (Or.inr (Or.inr (Or.inr ⟨rfl, rfl⟩)))))
theorem step_both {bt : Nat → Nat} {n e : Nat} {σX σM : fm_M} (hb : btOk bt n) (he : e ≤ n) (hX : tpX σX bt n) (hX3 : σX.1 92 3 = nI e) (hM : tpM σM bt n) (hC : iC σM) (hM3 : σM.1 96 11 = nI e) : ∃ (s' e' t' v' : Nat) (σX' σM' : fm_M), m_X9_step σX = some ((), σX') ∧ m_X12_nextToken σM = some ((), σM') ∧ tkX σX' bt n s' e' t' v' ∧ tkM σM' bt n s' e' t' v' ∧ tkO n s' e' t' v' ∧ e ≤ s' ∧ fEq sTX σX σX' ∧ fE2 sTM σM σM' := by
  have hn := hb.1
  obtain ⟨τX, a1, a2, a3, a4, a5⟩ := ex_step0 hb he hX hX3
  obtain ⟨τM, b1, b2, b3, b4, b5, b6, b7⟩ := em_next0 hb he hM hC hM3
  have g1 := tf_ge (nb bt) (n - e) e
  have g2 := tf_le (nb bt) (n - e) e
  generalize tf (nb bt) (n - e) e = s at a2 a3 b3 b4 g1 g2
  have fin : ∀ (e' t' v' : Nat) (σX' σM' : fm_M), x_rest τX = some ((), σX') → m_rest τM = some ((), σM') → tkX σX' bt n s e' t' v' → tkM σM' bt n s e' t' v' → tkO n s e' t' v' → fEq sTX τX σX' → fE2 sTM τM σM' → ∃ (s' e' t' v' : Nat) (σX' σM' : fm_M), m_X9_step σX = some ((), σX') ∧ m_X12_nextToken σM = some ((), σM') ∧ tkX σX' bt n s' e' t' v' ∧ tkM σM' bt n s' e' t' v' ∧ tkO n s' e' t' v' ∧ e ≤ s' ∧ fEq sTX σX σX' ∧ fE2 sTM σM σM' := fun e' t' v' σX' σM' c1 c2 c3 c4 c5 c6 c7 => ⟨s, e', t', v', σX', σM', by rw [a5]; exact c1, by rw [b7]; exact c2, c3, c4, c5, g1, fEq.tr (S := sTX) a4 c6 (fun _ _ z => z) (fun _ _ z => z), fE2.tr (S := sTM) b6 c7 (fun _ _ z => z) (fun _ _ z => z)⟩
  by_cases hs : s = n
  · subst hs
    obtain ⟨σX', c1, c2, c3⟩ := ex_stepEnd a1 a2 a3 hn
    obtain ⟨σM', d1, d2, d3⟩ := em_nextEnd b1 b2 b3 b4 hn
    exact fin _ _ _ _ _ c1 d1 c2 d2 ⟨Nat.le_refl _, Nat.le_refl _, fun z => absurd rfl z, by omega, by omega⟩ c3 d3
  · have hs : s < n := by omega
    by_cases hl : isL (bt s) = true
    · obtain ⟨σX', c1, c2, c3⟩ := ex_stepWord hb hs hl a1 a2 a3
      obtain ⟨σM', d1, d2, d3⟩ := em_nextWord hb hs hl b1 b2 b3 b4 b5
      have g3 := tf_gt (p := nl bt) (m := n - s) (i := s) (by omega) (by simp [nl, hl])
      have g4 := tf_le (nl bt) (n - s) s
      refine fin _ _ _ _ _ c1 d1 c2 d2 ⟨by omega, by omega, fun _ => by omega, by omega, ?_⟩ c3 d3
      rcases lwF_is (mtW bt s (tf (nl bt) (n - s) s - s)) 12 0 15 with ⟨y, -⟩ | ⟨-, y, -⟩ <;> omega
    · by_cases hd : isD (bt s) = true
      · obtain ⟨σX', c1, c2, c3⟩ := ex_stepNum hb hs hl hd a1 a2 a3
        obtain ⟨σM', d1, d2, d3⟩ := em_nextNum hb hs hl hd b1 b2 b3 b4 b5
        have g3 := tf_gt (p := nd bt) (m := n - s) (i := s) (by omega) (by simp [nd, hd])
        have g4 := tf_le (nd bt) (n - s) s
        exact fin _ _ _ _ _ c1 d1 c2 d2 ⟨by omega, by omega, fun _ => by omega, by omega, by omega⟩ c3 d3
      · obtain ⟨σX', c1, c2, c3⟩ := ex_stepSign hb hs hl hd a1 a2 a3
        obtain ⟨σM', d1, d2, d3⟩ := em_nextSign hb hs hl hd b1 b2 b3 b4
        exact fin _ _ _ _ _ c1 d1 c2 d2 ⟨by omega, by omega, fun _ => by omega, by omega, by split <;> omega⟩ c3 d3
