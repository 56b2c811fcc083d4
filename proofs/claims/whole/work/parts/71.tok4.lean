/-! reading a present, an item -/
theorem tkX.keep {σ σ' : fm_M} {bt : Nat → Nat} {n s e t v : Nat} (h : tkX σ bt n s e t v) (hf : ∀ a k, a = 92 ∨ a = 93 → σ'.1 a k = σ.1 a k) : tkX σ' bt n s e t v := ⟨h.1.keep (hf _ _ (Or.inl rfl)) (fun k => hf _ _ (Or.inr rfl)), by rw [hf _ _ (Or.inl rfl)]; exact h.2.1, by rw [hf _ _ (Or.inl rfl)]; exact h.2.2.1, by rw [hf _ _ (Or.inl rfl)]; exact h.2.2.2.1, fun z => by rw [hf _ _ (Or.inl rfl)]; exact h.2.2.2.2 z⟩
theorem tkM.keep {σ σ' : fm_M} {bt : Nat → Nat} {n s e t v : Nat} (h : tkM σ bt n s e t v) (hf : ∀ a k, a = 96 ∨ (102 ≤ a ∧ a ≤ 105) → σ'.1 a k = σ.1 a k) (h2 : σ'.2 = σ.2) : tkM σ' bt n s e t v := ⟨h.1.keep (hf _ _ (Or.inl rfl)) (fun k => hf _ _ (Or.inr (by omega))), h.2.1.keep (fun a k i1 i2 => hf _ _ (Or.inr (by omega))), by rw [hf _ _ (Or.inl rfl)]; exact h.2.2.1, by rw [hf _ _ (Or.inl rfl)]; exact h.2.2.2.1, by rw [hf _ _ (Or.inl rfl), h2]; exact h.2.2.2.2⟩
theorem xTown.setP2 {σ σ' : fm_M} {b dy np ng g : Nat} {kd jy x : Nat → Nat} {pr : Nat → Nat → Nat} (h : xTown σ b dy np ng kd jy pr) (ho : tOk dy np ng kd jy pr) (hx : xRec σ' (b + 9 + 2 * g) x) (hf : ∀ a k, b ≤ a → a < b + 25 → a ≠ b + 9 + 2 * g → a ≠ b + 9 + 2 * g + 1 → σ'.1 a k = σ.1 a k) : xTown σ' b dy np ng kd jy (fun i => if i = g then x else pr i) := by
  obtain ⟨o1, o2, -⟩ := ho
  refine ⟨by rw [hf _ _ (by omega) (by omega) (by omega) (by omega)]; exact h.1, by rw [hf _ _ (by omega) (by omega) (by omega) (by omega)]; exact h.2.1, by rw [hf _ _ (by omega) (by omega) (by omega) (by omega)]; exact h.2.2.1, fun k hk => ⟨by rw [hf _ _ (by omega) (by omega) (by omega) (by omega)]; exact (h.2.2.2.1 k hk).1, by rw [hf _ _ (by omega) (by omega) (by omega) (by omega)]; exact (h.2.2.2.1 k hk).2⟩, fun i hi => ?_⟩
  dsimp only
  by_cases z : i = g
  · subst z; rw [if_pos rfl]; exact hx
  · rw [if_neg z]
    exact (h.2.2.2.2 i hi).out (fun k => hf _ _ (by omega) (by omega) (by omega) (by omega)) (fun k => hf _ _ (by omega) (by omega) (by omega) (by omega))
theorem mTown.setP2 {σ σ' : fm_M} {dy np ng g : Nat} {kd jy x : Nat → Nat} {pr : Nat → Nat → Nat} (h : mTown σ 97 dy np ng kd jy pr) (ho : tOk dy np ng kd jy pr) (hx : mRec σ' 97 g x) (hf : ∀ k, ¬ (16 + 10 * g ≤ k ∧ k < 26 + 10 * g) → σ'.1 97 k = σ.1 97 k) : mTown σ' 97 dy np ng kd jy (fun i => if i = g then x else pr i) := by
  obtain ⟨o1, o2, -, -, o5⟩ := ho
  refine ⟨by rw [hf _ (by omega)]; exact h.1, by rw [hf _ (by omega)]; exact h.2.1, by rw [hf _ (by omega)]; exact h.2.2.1, fun k hk => ⟨by rw [hf _ (by omega)]; exact (h.2.2.2.1 k hk).1, by rw [hf _ (by omega)]; exact (h.2.2.2.1 k hk).2⟩, fun i hi => ?_⟩
  dsimp only
  by_cases z : i = g
  · subst z; rw [if_pos rfl]; exact hx
  · rw [if_neg z]
    intro f hf2
    have := (o5 i hi).1.1
    rw [hf _ (by omega)]
    exact h.2.2.2.2 i hi f hf2
theorem ex_isPaperName {σ : fm_M} {t : Nat} (h : σ.1 92 4 = nI t) (ht : t ≤ 15) : m_X9_isPaperName σ = some (if 6 ≤ t ∧ t < 10 then nI 1 else nI 0, σ) := by
  unfold m_X9_isPaperName
  simp only [nu_lit]
  rw [h]
  simp only [nu_lt (show t < 2 ^ 30 by omega) (show 6 < 2 ^ 30 by decide), nu_le (show 10 < 2 ^ 30 by decide) (show t < 2 ^ 30 by omega)]
  by_cases z : t < 6
  · rw [if_pos z, if_neg (by omega)]
  · rw [if_neg z]
    by_cases y : 10 ≤ t
    · rw [if_pos y, if_neg (by omega)]
    · rw [if_neg y, if_pos (by omega)]
theorem rApp_ok {x : Nat → Nat} {q : Nat} (h : rOk x) (h6 : x 0 < 6) (hq : q < 4) : rOk (rApp q x) := by
  have e : ∀ f, 1 ≤ f → f < 4 → rApp q x f = x f := fun f h1 h2 => by unfold rApp; rw [if_neg (by omega), if_neg (by omega)]
  refine ⟨show x 0 + 1 ≤ 6 by omega, by rw [e 1 (by omega) (by omega)]; exact h.2.1, by rw [e 3 (by omega) (by omega)]; exact h.2.2.1, fun i hi => ?_⟩
  have hi' : i < x 0 + 1 := hi
  unfold rApp
  rw [if_neg (by omega)]
  by_cases z : i = x 0
  · rw [if_pos (by omega)]; exact hq
  · rw [if_neg (by omega)]; exact h.2.2.2 i (by omega)
/-- a paper comes innermost, in the reference's row -/
theorem em_app {σ : fm_M} {g q : Nat} {x : Nat → Nat} (hx : mRec σ 97 g x) (h6 : x 0 < 6) : mRec (fm_sI (fm_sI σ 97 (16 + 10 * g + (4 + x 0)) (nI q)) 97 (16 + 10 * g + 0) (nI (x 0 + 1))) 97 g (rApp q x) := by
  intro f hf
  have hf' : f < 4 + (x 0 + 1) := hf
  by_cases z : f = 0
  · subst z; rw [nu_sI, if_pos ⟨rfl, rfl⟩]; rfl
  · rw [nu_sI, if_neg (by omega)]
    unfold rApp
    rw [if_neg z]
    by_cases y : f = 4 + x 0
    · rw [if_pos y, nu_sI, if_pos ⟨rfl, by omega⟩]
    · rw [if_neg y, nu_sI, if_neg (by omega)]
      exact hx f (by omega)
def sFP (g : Nat) : Nat → Nat → Prop := fun a k => sP g a k ∨ sTM a k
def sFA (g : Nat) : Nat → Nat → Prop := fun a k => sA (58 + 9 + 2 * g) a k ∨ sTX a k
def ppZ (t : Nat) : Int32 := if 6 ≤ t ∧ t < 10 then nI (t - 6) else -nI 1
theorem papers_both {bt : Nat → Nat} {n g : Nat} (hb : btOk bt n) (hg : g < 8) : ∀ (m k s e t v fx fm : Nat) (x : Nat → Nat) (σX σM : fm_M), k + m = 6 → m < fx → m < fm → x 0 = k → rOk x → xRec σX (58 + 9 + 2 * g) x → mRec σM 97 g x → tkX σX bt n s e t v → tkM σM bt n s e t v → tkO n s e t v →
    ∃ (k' s' e' t' v' : Nat) (x' : Nat → Nat) (σX' σM' : fm_M), (∀ kc : Nat → Int32 → Int32 → fm_M → Option (Int32 × fm_M), m_X9_readPresent_86 kc fx 58 (nI g) (nI k) σX = kc 58 (nI g) (nI k') σX') ∧ (((∀ kc : Int32 → Int32 → fm_M → Option (Int32 × fm_M), m_X12_readsPresent_96 kc fm (nI g) (ppZ t) σM = kc (nI g) (-nI 1) σM') ∧ ¬ (6 ≤ t' ∧ t' < 10)) ∨ ((∀ kc : Int32 → Int32 → fm_M → Option (Int32 × fm_M), m_X12_readsPresent_96 kc fm (nI g) (ppZ t) σM = some (nI 0, σM')) ∧ 6 ≤ t' ∧ t' < 10)) ∧ rOk x' ∧ x' 2 = x 2 ∧ xRec σX' (58 + 9 + 2 * g) x' ∧ mRec σM' 97 g x' ∧ tkX σX' bt n s' e' t' v' ∧ tkM σM' bt n s' e' t' v' ∧ tkO n s' e' t' v' ∧ s ≤ s' ∧ fEq (sFA g) σX σX' ∧ fE2 (sFP g) σM σM' := by
  intro m
  have hn := hb.1
  induction m with
  | zero =>
    intro k s e t v fx fm x σX σM hk hfx hfm h0 hr hx hm tX tM tO
    obtain ⟨f1, rfl⟩ : ∃ f, fx = f + 1 := ⟨fx - 1, by omega⟩
    obtain ⟨f2, rfl⟩ : ∃ f, fm = f + 1 := ⟨fm - 1, by omega⟩
    refine ⟨6, s, e, t, v, x, σX, σM, ?_, ?_, hr, rfl, hx, hm, tX, tM, tO, Nat.le_refl _, fEq.rf, fE2.rf⟩
    · intro kc
      rw [m_X9_readPresent_86]
      simp only [nu_lit]
      rw [if_pos (by rw [nu_le (by omega) (by omega)]; omega), show k = 6 by omega]
    · by_cases z : 6 ≤ t ∧ t < 10
      · refine Or.inr ⟨?_, z⟩
        intro kc
        rw [m_X12_readsPresent_96]
        simp only [nu_lit]
        unfold ppZ
        rw [if_pos z, if_neg (by rw [nu_lt (by omega) (by decide)]; omega), em_of1 _ (by omega), nu_b, hm 0 (by omega), h0, show k = 6 by omega, if_pos rfl]
      · refine Or.inl ⟨?_, z⟩
        intro kc
        rw [m_X12_readsPresent_96]
        simp only [nu_lit]
        unfold ppZ
        rw [if_neg z, if_pos (by decide)]
  | succ m ih =>
    intro k s e t v fx fm x σX σM hk hfx hfm h0 hr hx hm tX tM tO
    obtain ⟨f1, rfl⟩ : ∃ f, fx = f + 1 := ⟨fx - 1, by omega⟩
    obtain ⟨f2, rfl⟩ : ∃ f, fm = f + 1 := ⟨fm - 1, by omega⟩
    obtain ⟨p1, p2, p3, p4, p5⟩ := id tO
    by_cases z : 6 ≤ t ∧ t < 10
    · obtain ⟨τX, a1, a2, a3⟩ := ex_layInnermost (q := t - 6) hx (by omega)
      have tX1 : tkX τX bt n s e t v := tX.keep (fun a k i => a3.1 _ _ (fun y => by rcases y with y | y <;> omega))
      have em1 : ∀ a k, a ≠ 97 → (fm_sI (fm_sI σM 97 (16 + 10 * g + (4 + x 0)) (nI (t - 6))) 97 (16 + 10 * g + 0) (nI (x 0 + 1))).1 a k = σM.1 a k := fun a k i => by rw [nu_sI, if_neg (by omega), nu_sI, if_neg (by omega)]
      have tM1 : tkM (fm_sI (fm_sI σM 97 (16 + 10 * g + (4 + x 0)) (nI (t - 6))) 97 (16 + 10 * g + 0) (nI (x 0 + 1))) bt n s e t v := tM.keep (fun a k i => em1 a k (by omega)) rfl
      have rM1 := em_app (q := t - 6) hm (by omega)
      obtain ⟨s1, e1, t1, v1, ρX, ρM, b1, b2, b3, b4, b5, b6, b7, b8⟩ := step_both hb p2 tX1.1 tX1.2.2.1 tM1.1 tM1.2.1 tM1.2.2.2.1
      obtain ⟨k', s', e', t', v', x', σX', σM', c1, c2, c3, c4, c5, c6, c7, c8, c9, c10, c11, c12⟩ := ih (k + 1) s1 e1 t1 v1 f1 f2 (rApp (t - 6) x) ρX ρM (by omega) (by omega) (by omega) (show x 0 + 1 = k + 1 by omega) (rApp_ok hr (by omega) (by omega)) (a2.out (fun k => b7.1 _ _ (by unfold sTX; omega)) (fun k => b7.1 _ _ (by unfold sTX; omega))) (fun f hf => by rw [b8.1 _ _ (by unfold sTM; omega)]; exact rM1 f hf) b3 b4 b5
      have mgo : ∀ kc : Int32 → Int32 → fm_M → Option (Int32 × fm_M), m_X12_readsPresent_96 kc (f2 + 1) (nI g) (ppZ t) σM = m_X12_readsPresent_96 kc f2 (nI g) (ppZ t1) ρM := by
        intro kc
        have q0 : (fm_sI σM 97 (16 + 10 * g + (4 + x 0)) (nI (t - 6))).1 97 (16 + 10 * g + 0) = nI (x 0) := by rw [nu_sI, if_neg (by omega)]; exact hm 0 (by omega)
        rw [m_X12_readsPresent_96]
        simp only [nu_lit]
        rw [show ppZ t = nI (t - 6) by unfold ppZ; rw [if_pos z], if_neg (by rw [nu_lt (by omega) (by decide)]; omega), em_of1 _ (by omega), nu_b, hm 0 (by omega), if_neg (by rw [nu_eq (by omega) (by decide)]; omega), em_of1 _ (by omega), nu_b, hm 0 (by omega), nI_add, em_lays1 _ (by omega), nu_b, em_of1 _ (by omega), nu_b, q0, nI_add, em_lays1 _ (by omega), nu_b, b2, nu_b, em_w105 b4.2.1 b4.2.2.2.2, nu_b]
        rfl
      refine ⟨k', s', e', t', v', x', σX', σM', ?_, ?_, c3, ?_, c5, c6, c7, c8, c9, by omega, ?_, ?_⟩
      · intro kc
        rw [m_X9_readPresent_86]
        simp only [nu_lit]
        rw [if_neg (by rw [nu_le (by omega) (by omega)]; omega), if_neg (by rw [nu_lt (by omega) (by decide)]; omega), ex_isPaperName tX.2.2.2.1 p5, nu_b, if_pos z, if_neg nI10, nu_in hg (by decide), nu_g, nu_cl (by omega), tX.2.2.2.1, nu_sub (by omega), a1, nu_b, b1, nu_b, nI_add]
        exact c1 kc
      · rcases c2 with ⟨d1, d2⟩ | ⟨d1, d2⟩
        · exact Or.inl ⟨fun kc => by rw [mgo]; exact d1 kc, d2⟩
        · exact Or.inr ⟨fun kc => by rw [mgo]; exact d1 kc, d2⟩
      · rw [c4]
        unfold rApp
        rw [if_neg (by omega), if_neg (by omega)]
      · exact fEq.tr (S := sFA g) (fEq.tr (S := sFA g) a3 b7 (fun _ _ y => Or.inl y) (fun _ _ y => Or.inr y)) c11 (fun _ _ y => y) (fun _ _ y => y)
      · have s1 : fEq (sFP g) σM (fm_sI σM 97 (16 + 10 * g + (4 + x 0)) (nI (t - 6))) := fEq.set (Or.inl ⟨rfl, by omega, by omega⟩)
        have s2 : fEq (sFP g) (fm_sI σM 97 (16 + 10 * g + (4 + x 0)) (nI (t - 6))) (fm_sI (fm_sI σM 97 (16 + 10 * g + (4 + x 0)) (nI (t - 6))) 97 (16 + 10 * g + 0) (nI (x 0 + 1))) := fEq.set (Or.inl ⟨rfl, by omega, by omega⟩)
        exact fE2.tr (S := sFP g) (fE2.tr (S := sFP g) (fE2.of (fEq.tr (S := sFP g) s1 s2 (fun _ _ y => y) (fun _ _ y => y))) b8 (fun _ _ y => y) (fun _ _ y => Or.inr y)) c12 (fun _ _ y => y) (fun _ _ y => y)
    · refine ⟨k, s, e, t, v, x, σX, σM, ?_, Or.inl ⟨?_, z⟩, hr, rfl, hx, hm, tX, tM, tO, Nat.le_refl _, fEq.rf, fE2.rf⟩
      · intro kc
        rw [m_X9_readPresent_86]
        simp only [nu_lit]
        rw [if_neg (by rw [nu_le (by omega) (by omega)]; omega), if_neg (by rw [nu_lt (by omega) (by decide)]; omega), ex_isPaperName tX.2.2.2.1 p5, nu_b, if_neg z, if_pos rfl]
      · intro kc
        rw [m_X12_readsPresent_96]
        simp only [nu_lit]
        unfold ppZ
        rw [if_neg z, if_pos (by decide)]
def sFM : Nat → Nat → Prop := fun a k => a = 97 ∨ sTM a k
/-- behind an item -/
def itR (bt : Nat → Nat) (n e dy : Nat) (rX rM : Int32) (σX σM : fm_M) : Prop := (rX = nI 1 ∧ rM = nI 1 ∧ ∃ (s' e' t' v' np ng : Nat) (kd jy : Nat → Nat) (pr : Nat → Nat → Nat), tkX σX bt n s' e' t' v' ∧ tkM σM bt n s' e' t' v' ∧ tkO n s' e' t' v' ∧ e ≤ s' ∧ tOk dy np ng kd jy pr ∧ xTown σX 58 dy np ng kd jy pr ∧ mTown σM 97 dy np ng kd jy pr) ∨ (rM = nI 0 ∧ ∃ s', s' ≤ 120 ∧ σX.1 92 2 = nI s' ∧ σM.1 96 10 = nI s' ∧ (rX = nI 0 ∨ (rX = nI 1 ∧ ∃ t', 6 ≤ t' ∧ t' < 10 ∧ σX.1 92 4 = nI t')))
theorem tail_both {bt : Nat → Nat} {n e0 s e t v dy np ng w th : Nat} {kd jy : Nat → Nat} {pr : Nat → Nat → Nat} {σX σM : fm_M} (hb : btOk bt n) (hng : ng < 8) (hw : w < np) (hth : th ≤ 99) (ho : tOk dy np ng kd jy pr) (hx : xTown σX 58 dy np ng kd jy pr) (hm : mTown σM 97 dy np (ng + 1) kd jy (fun i => if i = ng then rNew w th else pr i)) (tX : tkX σX bt n s e t v) (tM : tkM σM bt n s e t v) (tO : tkO n s e t v) (he : e0 ≤ s) :
    ∃ (rM : Int32) (σX' σM' : fm_M), (fm_b (m_X10_addPresent 58 (nI w) (nI th) σX) fun r4 σ5 => m_X9_readPresent_86 (fun (_ : Nat) (x4 : Int32) (_ : Int32) (σ : fm_M) => if x4 < nI 0 then some (nI 0, σ) else some (nI 1, σ)) fm_fu 58 r4 (nI 0) σ5) = some (nI 1, σX') ∧ (fm_b (m_X12_wordOf 105 σM) fun r16 σ17 => m_X12_readsPresent_96 (fun (_ : Int32) (_ : Int32) (σ : fm_M) => some (nI 1, σ)) fm_fu (nI ng) r16 σ17) = some (rM, σM') ∧ itR bt n e0 dy (nI 1) rM σX' σM' ∧ fEq sX σX σX' ∧ fE2 sFM σM σM' := by
  have hn := hb.1
  have ok := ho.addP (x := rNew w th) hng (rNew_ok hth) (by simpa [rNew] using hw)
  obtain ⟨τX, a1, a2, a3⟩ := ex_addPresent (w := w) (t := th) ho hx hng
  have tX1 : tkX τX bt n s e t v := tX.keep (fun a k i => a3.1 _ _ (fun y => by have := y.2; omega))
  have xr := a2.2.2.2.2 ng (by omega)
  have mr := hm.2.2.2.2 ng (by omega)
  simp only [if_pos rfl] at xr mr
  obtain ⟨k', s', e', t', v', x', σX', σM', c1, c2, c3, c4, c5, c6, c7, c8, c9, c10, c11, c12⟩ := papers_both hb hng 6 0 s e t v fm_fu fm_fu (rNew w th) τX σM (by omega) (by have := nu_fu; omega) (by have := nu_fu; omega) rfl (rNew_ok hth) xr mr tX1 tM tO
  have fX : fEq sX σX σX' := fEq.tr (S := sX) a3 c11 sB_X (fun a k y => by
    rcases y with (y | y) | y
    · unfold sX; omega
    · unfold sX; omega
    · unfold sTX at y; unfold sX; omega)
  have fM : fE2 sFM σM σM' := c12.mono (fun a k y => by
    rcases y with y | y
    · exact Or.inl y.1
    · exact Or.inr y)
  have w2 : x' 2 < np := by rw [c4]; simpa [rNew] using hw
  have ok2 := ok.setP (g := ng) c3 w2
  have xT := a2.setP2 ok c5 (fun a k i1 i2 i3 i4 => c11.1 _ _ (fun y => by
    rcases y with (y | y) | y
    · omega
    · omega
    · have := y.1; omega))
  have mT := hm.setP2 ok c6 (fun k i1 => c12.1 _ _ (fun y => by
    rcases y with y | y
    · exact i1 y.2
    · have := y.1; omega))
  have hX : (fm_b (m_X10_addPresent 58 (nI w) (nI th) σX) fun r4 σ5 => m_X9_readPresent_86 (fun (_ : Nat) (x4 : Int32) (_ : Int32) (σ : fm_M) => if x4 < nI 0 then some (nI 0, σ) else some (nI 1, σ)) fm_fu 58 r4 (nI 0) σ5) = some (nI 1, σX') := by
    rw [a1, nu_b, c1, if_neg (by rw [nu_lt (by omega) (by decide)]; omega)]
  have hMp : (fm_b (m_X12_wordOf 105 σM) fun r16 σ17 => m_X12_readsPresent_96 (fun (_ : Int32) (_ : Int32) (σ : fm_M) => some (nI 1, σ)) fm_fu (nI ng) r16 σ17) = m_X12_readsPresent_96 (fun (_ : Int32) (_ : Int32) (σ : fm_M) => some (nI 1, σ)) fm_fu (nI ng) (ppZ t) σM := by
    rw [em_w105 tM.2.1 tM.2.2.2.2, nu_b]
    rfl
  rcases c2 with ⟨d1, d2⟩ | ⟨d1, d2⟩
  · exact ⟨nI 1, σX', σM', hX, by rw [hMp, d1], Or.inl ⟨rfl, rfl, s', e', t', v', np, ng + 1, kd, jy, _, c7, c8, c9, by omega, ok2, xT, mT⟩, fX, fM⟩
  · exact ⟨nI 0, σX', σM', hX, by rw [hMp, d1], Or.inr ⟨rfl, s', by have := c9.1; have := c9.2.1; omega, c7.2.1, c8.2.2.1, Or.inr ⟨rfl, t', d2.1, d2.2, c7.2.2.2.1⟩⟩, fX, fM⟩
/-- taking a number -/
theorem em_takesT {bt : Nat → Nat} {σ : fm_M} {n s e v M : Nat} (tM : tkM σ bt n s e 13 v) (hM : M ≤ 999) (hv : v < M) : m_X12_takesNumber (nI 0) (nI M - nI 1) σ = fm_b (m_X12_nextToken σ) fun _ σ3 => some (nI v, σ3) := by
  have h : σ.1 96 9 = nI 2 ∧ σ.2 96 12 = lN v := by
    rcases tM.2.2.2.2 with h | h | h | h | h | h | h
    · exact absurd h.1 (by decide)
    · exact absurd h.1 (by decide)
    · exact absurd h.1 (by decide)
    · exact h.2.2
    · exact absurd h.2.1 (by omega)
    · exact absurd h.1 (by decide)
    · exact absurd h.1 (by decide)
  unfold m_X12_takesNumber
  simp only [nu_lit, nu_j]
  rw [h.1, if_pos rfl, h.2, lN_i, nu_sub (by omega), em_in1T _ (by omega) (by omega) (by omega), nu_b, if_neg nI10, h.2, lN_i, if_neg (by rw [nu_lt (by omega) (by decide)]; omega)]
theorem em_takesF {bt : Nat → Nat} {σ : fm_M} {n s e t v M : Nat} (tM : tkM σ bt n s e t v) (hM : M ≤ 999) (hv : ¬ (t = 13 ∧ v < M)) : m_X12_takesNumber (nI 0) (nI M - nI 1) σ = some (-nI 1, σ) := by
  unfold m_X12_takesNumber
  simp only [nu_lit, nu_j]
  by_cases z : σ.1 96 9 = nI 2
  · have h : t = 13 ∧ v ≤ 999 ∧ σ.2 96 12 = lN v := by
      rcases tM.2.2.2.2 with h | h | h | h | h | h | h
      · exact absurd (z.symm.trans h.2.1) (by decide)
      · exact absurd (z.symm.trans h.2.1) (by decide)
      · exact absurd (z.symm.trans h.2) (by decide)
      · exact ⟨h.1, h.2.1, h.2.2.2⟩
      · exact absurd (z.symm.trans h.2.2) (by decide)
      · exact absurd (z.symm.trans h.2) (by decide)
      · exact absurd (z.symm.trans h.2) (by decide)
    have hv' : M ≤ v := by
      rcases Nat.lt_or_ge v M with y | y
      · exact absurd ⟨h.1, y⟩ hv
      · exact y
    rw [if_pos z, h.2.2, lN_i, em_in1, if_neg (in_F0 (Or.inr (by rw [nu_le (by omega) (by omega)]; exact hv')) (by omega)), nu_b, if_pos rfl, if_pos (by decide)]
  · rw [if_neg z, if_pos (by decide)]
