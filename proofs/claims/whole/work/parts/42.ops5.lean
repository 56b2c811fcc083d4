theorem nu_ix1 (x : Int32) {n : Nat} (hn : n < 2 ^ 29) : (∃ j, 1 ≤ j ∧ j ≤ n ∧ x = nI j) ∨ ¬ (nI 1 ≤ x ∧ x ≤ nI n) := by
  rcases nu_ix x (n := n + 1) (by omega) with ⟨j, hj, rfl⟩ | hx
  · by_cases z : 1 ≤ j
    · exact Or.inl ⟨j, z, by omega, rfl⟩
    · refine Or.inr (fun y => z ?_)
      have := y.1
      rw [nu_le (by decide) (by omega)] at this
      exact this
  · refine Or.inr ?_
    rintro ⟨y1, y2⟩
    exact in_F hx hn ⟨Int32.le_trans (show nI 0 ≤ nI 1 by decide) y1, y2⟩
def rNew (w t : Nat) : Nat → Nat := fun k => if k = 1 then t else if k = 2 then w else 0
theorem rNew_ok {w t : Nat} (ht : t ≤ 99) : rOk (rNew w t) := ⟨by simp [rNew], by simpa [rNew] using ht, by simp [rNew], fun i hi => by simp [rNew] at hi⟩
theorem tOk.addP {dy np ng : Nat} {kd jy x : Nat → Nat} {pr : Nat → Nat → Nat} (h : tOk dy np ng kd jy pr) (hn : ng < 8) (hx : rOk x) (h2 : x 2 < np) : tOk dy np (ng + 1) kd jy (fun i => if i = ng then x else pr i) := ⟨h.1, by omega, h.2.2.1, h.2.2.2.1, fun g hg => by
    dsimp only
    by_cases z : g = ng
    · rw [if_pos z]; exact ⟨hx, h2⟩
    · rw [if_neg z]; exact h.2.2.2.2 g (by omega)⟩
theorem ex_addPresent {σ : fm_M} {b dy np ng w t : Nat} {kd jy : Nat → Nat} {pr : Nat → Nat → Nat} (ho : tOk dy np ng kd jy pr) (ht : xTown σ b dy np ng kd jy pr) (hn : ng < 8) : ∃ σ', m_X10_addPresent b (nI w) (nI t) σ = some (nI ng, σ') ∧ xTown σ' b dy np (ng + 1) kd jy (fun i => if i = ng then rNew w t else pr i) ∧ fEq (sB b) σ σ' := by
  obtain ⟨o1, o2, -⟩ := ho
  obtain ⟨h1, h2, h3, h4, h5⟩ := ht
  unfold m_X10_addPresent m_X7_begin
  simp only [nu_lit]
  have out : ∀ a k, a ≠ b + 9 + 2 * ng → (fm_sI (fm_sI (fm_sI (fm_sI σ (b + 9 + 2 * ng) 1 (nI 0)) (b + 9 + 2 * ng) 2 (nI t)) (b + 9 + 2 * ng) 3 (nI w)) (b + 9 + 2 * ng) 4 (nI 0)).1 a k = σ.1 a k := fun a k i1 => by rw [nu_sI, if_neg (by omega), nu_sI, if_neg (by omega), nu_sI, if_neg (by omega), nu_sI, if_neg (by omega)]
  rw [h3, if_pos (by rw [nu_lt (by omega) (by decide)]; exact hn), nu_in hn (by decide), nu_g, nu_cl (by omega), nu_let, nu_let, nu_let, nu_let, nu_b, out _ _ (by omega), h3, nI_add, nu_let, nu_sI, if_pos ⟨rfl, rfl⟩, nu_sub (by omega), Nat.add_sub_cancel]
  have out2 : ∀ a k, a ≠ b + 9 + 2 * ng → ¬ (a = b ∧ k = 5) → (fm_sI (fm_sI (fm_sI (fm_sI (fm_sI σ (b + 9 + 2 * ng) 1 (nI 0)) (b + 9 + 2 * ng) 2 (nI t)) (b + 9 + 2 * ng) 3 (nI w)) (b + 9 + 2 * ng) 4 (nI 0)) b 5 (nI (ng + 1))).1 a k = σ.1 a k := fun a k i1 i2 => by rw [nu_sI, if_neg i2, out _ _ i1]
  refine ⟨_, rfl, ⟨by rw [out2 _ _ (by omega) (by omega)]; exact h1, by rw [out2 _ _ (by omega) (by omega)]; exact h2, by rw [nu_sI, if_pos ⟨rfl, rfl⟩], fun k hk => ⟨by rw [out2 _ _ (by omega) (by omega)]; exact (h4 k hk).1, by rw [out2 _ _ (by omega) (by omega)]; exact (h4 k hk).2⟩, fun g hg => ?_⟩, ?_⟩
  · dsimp only
    by_cases z : g = ng
    · subst z
      rw [if_pos rfl]
      refine ⟨fun f hf => ?_, fun i hi => by simp [rNew] at hi⟩
      have : f = 0 ∨ f = 1 ∨ f = 2 ∨ f = 3 := by omega
      rw [nu_sI, if_neg (by omega)]
      rcases this with rfl | rfl | rfl | rfl
      · rw [nu_sI, if_neg (by omega), nu_sI, if_neg (by omega), nu_sI, if_neg (by omega), nu_sI, if_pos ⟨rfl, rfl⟩]; rfl
      · rw [nu_sI, if_neg (by omega), nu_sI, if_neg (by omega), nu_sI, if_pos ⟨rfl, rfl⟩]; rfl
      · rw [nu_sI, if_neg (by omega), nu_sI, if_pos ⟨rfl, rfl⟩]; rfl
      · rw [nu_sI, if_pos ⟨rfl, rfl⟩]; rfl
    · rw [if_neg z]
      exact (h5 g (by omega)).out (fun k => out2 _ _ (by omega) (by omega)) (fun k => out2 _ _ (by omega) (by omega))
  · refine ⟨fun a k z => out2 a k (fun y => z ⟨by omega, by omega⟩) (fun y => z ⟨by omega, by omega⟩), rfl⟩
theorem em_addsPresent {σ : fm_M} {dy np ng w t : Nat} {kd jy : Nat → Nat} {pr : Nat → Nat → Nat} (ho : tOk dy np ng kd jy pr) (ht : mTown σ 97 dy np ng kd jy pr) (hn : ng < 8) : ∃ σ', m_X12_addsPresent (nI w) (nI t) σ = some ((), σ') ∧ mTown σ' 97 dy np (ng + 1) kd jy (fun i => if i = ng then rNew w t else pr i) ∧ fEq (fun a _ => a = 97) σ σ' := by
  obtain ⟨o1, o2, o3, o4, o5⟩ := ho
  obtain ⟨h1, h2, h3, h4, h5⟩ := ht
  unfold m_X12_addsPresent
  simp only [nu_lit]
  have out : ∀ a k, ¬ (a = 97 ∧ 16 + 10 * ng ≤ k ∧ k < 20 + 10 * ng) → (fm_sI (fm_sI (fm_sI (fm_sI σ 97 (16 + 10 * ng + 0) (nI 0)) 97 (16 + 10 * ng + 1) (nI t)) 97 (16 + 10 * ng + 2) (nI w)) 97 (16 + 10 * ng + 3) (nI 0)).1 a k = σ.1 a k := fun a k i1 => by rw [nu_sI, if_neg (by omega), nu_sI, if_neg (by omega), nu_sI, if_neg (by omega), nu_sI, if_neg (by omega)]
  rw [nu_in (by decide) (by decide), nu_g, nu_cl (n := 2) (by omega), h3, em_lays1 _ (by omega), nu_b, em_lays1 _ (by omega), nu_b, em_lays1 _ (by omega), nu_b, em_lays1 _ (by omega), nu_b, nu_g, nu_g, out _ _ (by omega), h3, nI_add, nu_let]
  have out2 : ∀ a k, ¬ (a = 97 ∧ 16 + 10 * ng ≤ k ∧ k < 20 + 10 * ng) → ¬ (a = 97 ∧ k = 2) → (fm_sI (fm_sI (fm_sI (fm_sI (fm_sI σ 97 (16 + 10 * ng + 0) (nI 0)) 97 (16 + 10 * ng + 1) (nI t)) 97 (16 + 10 * ng + 2) (nI w)) 97 (16 + 10 * ng + 3) (nI 0)) 97 2 (nI (ng + 1))).1 a k = σ.1 a k := fun a k i1 i2 => by rw [nu_sI, if_neg i2, out _ _ i1]
  refine ⟨_, rfl, ⟨by rw [out2 _ _ (by omega) (by omega)]; exact h1, by rw [out2 _ _ (by omega) (by omega)]; exact h2, by rw [nu_sI, if_pos ⟨rfl, rfl⟩], fun k hk => ⟨by rw [out2 _ _ (by omega) (by omega)]; exact (h4 k hk).1, by rw [out2 _ _ (by omega) (by omega)]; exact (h4 k hk).2⟩, fun g hg => ?_⟩, ?_⟩
  · dsimp only
    by_cases z : g = ng
    · subst z
      rw [if_pos rfl]
      intro f hf
      have hf' : f < 4 := by simpa [rNew] using hf
      have : f = 0 ∨ f = 1 ∨ f = 2 ∨ f = 3 := by omega
      rw [nu_sI, if_neg (by omega)]
      rcases this with rfl | rfl | rfl | rfl
      · rw [nu_sI, if_neg (by omega), nu_sI, if_neg (by omega), nu_sI, if_neg (by omega), nu_sI, if_pos ⟨rfl, rfl⟩]; rfl
      · rw [nu_sI, if_neg (by omega), nu_sI, if_neg (by omega), nu_sI, if_pos ⟨rfl, rfl⟩]; rfl
      · rw [nu_sI, if_neg (by omega), nu_sI, if_pos ⟨rfl, rfl⟩]; rfl
      · rw [nu_sI, if_pos ⟨rfl, rfl⟩]; rfl
    · rw [if_neg z]
      intro f hf
      have := (o5 g (by omega)).1.1
      rw [out2 _ _ (by omega) (by omega)]
      exact h5 g (by omega) f hf
  · exact ⟨fun a k z => out2 a k (fun y => z y.1) (fun y => z y.1), rfl⟩
theorem op_present (x v : Int32) {σ : fm_M} (h : Inv σ) : opS (m_X11_present x v) (m_X12_present x v) σ := by
  obtain ⟨hR, dy, np, ng, kd, jy, pr, k1, k2, k3, k4⟩ := id h
  have o1 := k1.1
  have o2 := k1.2.1
  rcases nu_ix x (n := np) (by omega) with ⟨jx, hx, rfl⟩ | hx
  · rcases nu_ix v (n := 100) (by omega) with ⟨jv, hv, rfl⟩ | hv
    · by_cases z : ng = 8
      · refine stp_find 1 (by decide) h ?_ (fun σ1 hs => ?_)
        · unfold m_X11_present
          simp only [nu_lit, fnd1]
          rw [ex_isPersonT k3.2.1 o1 hx, nu_b, if_neg nI10, ex_isThingT hv, nu_b, if_neg nI10, k3.2.2.1, if_neg (by rw [nu_lt (by omega) (by decide)]; omega)]
        · have m1 := k4.keep (fun k => hs 97 k (by omega))
          unfold m_X12_present
          simp only [nu_lit]
          rw [em_isPersonT m1.2.1 o1 hx, nu_b, if_neg nI10, em_in1T _ (by omega) (by omega) (by decide), nu_b, if_neg nI10, nu_in (by decide) (by decide), nu_g, nu_cl (n := 2) (by omega), m1.2.2.1, z, if_pos rfl]
      · obtain ⟨σ1, a1, a2, a3⟩ := ex_addPresent (w := jx) (t := jv) k1 k3 (by omega)
        have m1 : mTown σ1 97 dy np ng kd jy pr := k4.keep (fun k => a3.1 _ _ (fun y => by have := y.2; omega))
        obtain ⟨σ2, b1, b2, b3⟩ := em_addsPresent (w := jx) (t := jv) k1 m1 (by omega)
        have ok := k1.addP (x := rNew jx jv) (by omega) (rNew_ok (by omega)) (by simpa [rNew] using hx)
        refine ⟨nI ng, σ1, σ2, ?_, ?_, ?_⟩
        · unfold m_X11_present
          simp only [nu_lit]
          rw [ex_isPersonT k3.2.1 o1 hx, nu_b, if_neg nI10, ex_isThingT hv, nu_b, if_neg nI10, k3.2.2.1, if_pos (by rw [nu_lt (by omega) (by decide)]; omega), a1, nu_b]
        · unfold m_X12_present
          simp only [nu_lit]
          rw [em_isPersonT m1.2.1 o1 hx, nu_b, if_neg nI10, em_in1T _ (by omega) (by omega) (by decide), nu_b, if_neg nI10, nu_in (by decide) (by decide), nu_g, nu_cl (n := 2) (by omega), m1.2.2.1, if_neg (by rw [nu_eq (by omega) (by decide)]; exact z), b1, nu_b, nu_g, b2.2.2.1, nu_sub (by omega), Nat.add_sub_cancel]
        · exact inv_of hR (fEq.tr (S := sTT) a3 b3 sB_T (fun a k y => Or.inr y)) sTT_R ok k2 (a2.keep ok (fun a k i1 i2 => b3.1 _ _ (by omega))) b2
    · refine stp_find 0 (by decide) h ?_ (fun σ1 hs => ?_)
      · unfold m_X11_present
        simp only [nu_lit, fnd0]
        rw [ex_isPersonT k3.2.1 o1 hx, nu_b, if_neg nI10, ex_isThingF hv, nu_b, if_pos rfl]
      · have m1 := k4.keep (fun k => hs 97 k (by omega))
        unfold m_X12_present
        simp only [nu_lit]
        rw [em_isPersonT m1.2.1 o1 hx, nu_b, if_neg nI10, em_wF hv (by decide), nu_b, if_pos rfl]
  · refine stp_find 0 (by decide) h ?_ (fun σ1 hs => ?_)
    · unfold m_X11_present
      simp only [nu_lit, fnd0]
      rw [ex_isPersonF k3.2.1 o1 hx, nu_b, if_pos rfl]
    · have m1 := k4.keep (fun k => hs 97 k (by omega))
      unfold m_X12_present
      simp only [nu_lit]
      rw [em_isPersonF m1.2.1 o1 hx, nu_b, if_pos rfl]
/-- is one of this kind also of that -/
def kIs (kd w : Nat) : Bool := kd == w || w == 0 || (w == 1 && kd == 5) || (w == 2 && kd == 4)
theorem ex_isOf {σ : fm_M} {kd w : Nat} (h1 : kd < 6) (h2 : w < 6) : m_X11_isOf (2 + kd) (nI w) σ = some (nI (if kIs kd w then 1 else 0), σ) := by
  have e1 : kd = 0 ∨ kd = 1 ∨ kd = 2 ∨ kd = 3 ∨ kd = 4 ∨ kd = 5 := by omega
  have e2 : w = 0 ∨ w = 1 ∨ w = 2 ∨ w = 3 ∨ w = 4 ∨ w = 5 := by omega
  rcases e1 with rfl | rfl | rfl | rfl | rfl | rfl <;> rcases e2 with rfl | rfl | rfl | rfl | rfl | rfl <;> rfl
theorem em_asLoop (kc : Int32 → Int32 → Int32 → fm_M → Option (Int32 × fm_M)) {σ : fm_M} {z1 : Int32} {kd w : Nat} (h1 : kd < 6) (h2 : w < 6) : ∃ r, m_X12_as_30 kc fm_fu z1 (nI w) (nI kd) σ = kc z1 (nI w) r σ ∧ (r = nI w ↔ kIs kd w = true) := by
  have hf : ∃ n, fm_fu = n + 3 := ⟨fm_fu - 3, by have := nu_fu; omega⟩
  obtain ⟨n, hn⟩ := hf
  rw [hn]
  have e1 : kd = 0 ∨ kd = 1 ∨ kd = 2 ∨ kd = 3 ∨ kd = 4 ∨ kd = 5 := by omega
  have e2 : w = 0 ∨ w = 1 ∨ w = 2 ∨ w = 3 ∨ w = 4 ∨ w = 5 := by omega
  rcases e1 with rfl | rfl | rfl | rfl | rfl | rfl <;> rcases e2 with rfl | rfl | rfl | rfl | rfl | rfl <;> exact ⟨_, rfl, by decide⟩
theorem op_as (x v : Int32) {σ : fm_M} (h : Inv σ) : opS (m_X11_as x v) (m_X12_as x v) σ := by
  obtain ⟨hR, dy, np, ng, kd, jy, pr, k1, k2, k3, k4⟩ := id h
  have o1 := k1.1
  have o2 := k1.2.1
  rcases nu_ix x (n := np) (by omega) with ⟨jx, hx, rfl⟩ | hx
  · rcases nu_ix v (n := 6) (by omega) with ⟨jv, hv, rfl⟩ | hv
    · have c6 := (k1.2.2.2.1 jx hx).1
      have ek := (k3.2.2.2.1 jx hx).1
      by_cases z : kIs (kd jx) jv = true
      · refine stp_ask (nI (jy jx)) h ?_ ?_
        · unfold m_X11_as
          simp only [nu_lit]
          rw [ex_isPersonT k3.2.1 o1 hx, nu_b, if_neg nI10, ex_isKindT hv, nu_b, if_neg nI10, ex_mannerOf (by omega) ek c6, nu_b, ex_isOf c6 hv, nu_b, if_pos z, if_neg nI10, nu_in (by omega) (by decide), nu_g, nu_cl (by omega), (k3.2.2.2.1 jx hx).2]
        · have m1 := k4
          obtain ⟨r, e1, e2⟩ := em_asLoop (fun (x1_y13) (x2_y13) (x3_y13) (σ_y13) => if x3_y13 = x2_y13 then (fm_b (m_X12_get x1_y13 (nI 1) σ_y13) fun r17 σ18 => (some (r17, σ18))) else (fm_b (m_X12_no (nI 2) σ_y13) fun r14 σ15 => (some (r14, σ15)))) (σ := σ) (z1 := nI jx) c6 hv
          unfold m_X12_as
          simp only [nu_lit]
          rw [em_isPersonT m1.2.1 o1 hx, nu_b, if_neg nI10, em_in1T _ (by omega) (by omega) (by decide), nu_b, if_neg nI10, em_get _ (by omega), nu_b, show 4 + 2 * jx + 0 = 4 + 2 * jx by omega, (m1.2.2.2.1 jx hx).1, e1, if_pos (e2.2 z), em_get _ (by omega), nu_b, show 4 + 2 * jx + 1 = 5 + 2 * jx by omega, (m1.2.2.2.1 jx hx).2]
      · refine stp_find 2 (by decide) h ?_ (fun σ1 hs => ?_)
        · unfold m_X11_as
          simp only [nu_lit, fnd2]
          rw [ex_isPersonT k3.2.1 o1 hx, nu_b, if_neg nI10, ex_isKindT hv, nu_b, if_neg nI10, ex_mannerOf (by omega) ek c6, nu_b, ex_isOf c6 hv, nu_b, if_neg z, if_pos rfl]
        · have m1 := k4.keep (fun k => hs 97 k (by omega))
          obtain ⟨r, e1, e2⟩ := em_asLoop (fun (x1_y13) (x2_y13) (x3_y13) (σ_y13) => if x3_y13 = x2_y13 then (fm_b (m_X12_get x1_y13 (nI 1) σ_y13) fun r17 σ18 => (some (r17, σ18))) else (fm_b (m_X12_no (nI 2) σ_y13) fun r14 σ15 => (some (r14, σ15)))) (σ := σ1) (z1 := nI jx) c6 hv
          unfold m_X12_as
          simp only [nu_lit]
          rw [em_isPersonT m1.2.1 o1 hx, nu_b, if_neg nI10, em_in1T _ (by omega) (by omega) (by decide), nu_b, if_neg nI10, em_get _ (by omega), nu_b, show 4 + 2 * jx + 0 = 4 + 2 * jx by omega, (m1.2.2.2.1 jx hx).1, e1, if_neg (fun y => z (e2.1 y))]
    · refine stp_find 0 (by decide) h ?_ (fun σ1 hs => ?_)
      · unfold m_X11_as
        simp only [nu_lit, fnd0]
        rw [ex_isPersonT k3.2.1 o1 hx, nu_b, if_neg nI10, ex_isKindF hv, nu_b, if_pos rfl]
      · have m1 := k4.keep (fun k => hs 97 k (by omega))
        unfold m_X12_as
        simp only [nu_lit]
        rw [em_isPersonT m1.2.1 o1 hx, nu_b, if_neg nI10, em_wF hv (by decide), nu_b, if_pos rfl]
  · refine stp_find 0 (by decide) h ?_ (fun σ1 hs => ?_)
    · unfold m_X11_as
      simp only [nu_lit, fnd0]
      rw [ex_isPersonF k3.2.1 o1 hx, nu_b, if_pos rfl]
    · have m1 := k4.keep (fun k => hs 97 k (by omega))
      unfold m_X12_as
      simp only [nu_lit]
      rw [em_isPersonF m1.2.1 o1 hx, nu_b, if_pos rfl]
theorem op_does (x v z : Int32) {σ : fm_M} (h : Inv σ) : opS (m_X11_does x v z) (m_X12_does x v z) σ := by
  obtain ⟨hR, dy, np, ng, kd, jy, pr, k1, k2, k3, k4⟩ := id h
  have o1 := k1.1
  have o2 := k1.2.1
  rcases nu_ix x (n := np) (by omega) with ⟨jx, hx, rfl⟩ | hx
  · rcases nu_ix v (n := 4) (by omega) with ⟨jv, hv, rfl⟩ | hv
    · rcases nu_ix z (n := ng) (by omega) with ⟨jz, hz, rfl⟩ | hz
      · have c6 := (k1.2.2.2.1 jx hx).1
        have ek := (k3.2.2.2.1 jx hx).1
        obtain ⟨hr, hr2⟩ := k1.2.2.2.2 jz hz
        have h0 := hr.1
        have xj := k3.2.2.2.2 jz hz
        have e0 : σ.1 (8 + 9 + 2 * jz) 1 = nI (pr jz 0) := xj.n
        have e1 : σ.1 (8 + 9 + 2 * jz) 2 = nI (pr jz 1) := xj.1 1 (by omega)
        have d20 := k1.2.2.1
        have hv4 : jv = 0 ∨ jv = 1 ∨ jv = 2 ∨ jv = 3 := by omega
        by_cases zz : jv ≤ 1 ∧ pr jz 0 = 0
        · refine stp_find 3 (by decide) h ?_ (fun σ1 hs => ?_)
          · unfold m_X11_does
            simp only [nu_lit, fnd3]
            rw [ex_isPersonT k3.2.1 o1 hx, nu_b, if_neg nI10, ex_wT (by omega) (by omega) (by decide), nu_b, if_neg nI10, ex_isPresentT k3.2.2.1 o2 hz, nu_b, if_neg nI10, ex_mannerOf (by omega) ek c6, nu_b, nu_in (by omega) (by decide), nu_g, if_neg (by rw [nu_lt (by decide) (by omega)]; omega), nu_cl (n := jz) (by omega), e0, zz.2, if_pos rfl]
          · have m1 := k4.keep (fun k => hs 97 k (by omega))
            unfold m_X12_does
            simp only [nu_lit]
            rw [em_isPersonT m1.2.1 o1 hx, nu_b, if_neg nI10, em_in1T _ (by omega) (by omega) (by decide), nu_b, if_neg nI10, em_isPresentT m1.2.2.1 o2 hz, nu_b, if_neg nI10, em_of1 _ (by omega), nu_b, m1.2.2.2.2 jz hz 0 (by omega), if_neg (by rw [nu_le (by decide) (by omega)]; omega), zz.2, if_pos rfl]
        · rcases hv4 with rfl | rfl | rfl | rfl
          · have z0 : ¬ pr jz 0 = 0 := fun y => zz ⟨by omega, y⟩
            refine stp_ask (nI (kOpens (kd jx) dy (pr jz 0) (pr jz 4))) h ?_ ?_
            · unfold m_X11_does
              simp only [nu_lit]
              rw [ex_isPersonT k3.2.1 o1 hx, nu_b, if_neg nI10, ex_wT (by omega) (by omega) (by decide), nu_b, if_neg nI10, ex_isPresentT k3.2.2.1 o2 hz, nu_b, if_neg nI10, ex_mannerOf (by omega) ek c6, nu_b, nu_in (by omega) (by decide), nu_g, nu_cl (n := jz) (by omega), if_neg (by decide), e0, if_neg (by rw [nu_eq (by omega) (by decide)]; exact z0), if_pos trivial, ex_takesOff (by omega) c6 hr xj ek k3.1 d20, nu_b]
            · have m1 := k4
              unfold m_X12_does
              simp only [nu_lit]
              rw [em_isPersonT m1.2.1 o1 hx, nu_b, if_neg nI10, em_in1T _ (by omega) (by omega) (by decide), nu_b, if_neg nI10, em_isPresentT m1.2.2.1 o2 hz, nu_b, if_neg nI10, em_of1 _ (by omega), nu_b, m1.2.2.2.2 jz hz 0 (by omega), if_neg (by decide), if_neg (by rw [nu_eq (by omega) (by decide)]; exact z0), if_pos trivial, em_opensOf (by omega) (by omega) (m1.2.2.2.2 jz hz) hr (m1.2.2.2.1 jx hx).1 c6 m1.1 d20, nu_b]
          · have z0 : ¬ pr jz 0 = 0 := fun y => zz ⟨by omega, y⟩
            have h4 := hr.2.2.2 0 (by omega)
            refine stp_ask (nI (kEnjoys (kd jx) (pr jz 4))) h ?_ ?_
            · unfold m_X11_does
              simp only [nu_lit]
              rw [ex_isPersonT k3.2.1 o1 hx, nu_b, if_neg nI10, ex_wT (by omega) (by omega) (by decide), nu_b, if_neg nI10, ex_isPresentT k3.2.2.1 o2 hz, nu_b, if_neg nI10, ex_mannerOf (by omega) ek c6, nu_b, nu_in (by omega) (by decide), nu_g, nu_cl (n := jz) (by omega), if_neg (by decide), e0, if_neg (by rw [nu_eq (by omega) (by decide)]; exact z0), if_neg (by decide), if_pos trivial, ex_outermost xj h0 (by omega), nu_b, ex_enjoys c6 h4, nu_b]
            · have m1 := k4
              unfold m_X12_does
              simp only [nu_lit]
              rw [em_isPersonT m1.2.1 o1 hx, nu_b, if_neg nI10, em_in1T _ (by omega) (by omega) (by decide), nu_b, if_neg nI10, em_isPresentT m1.2.2.1 o2 hz, nu_b, if_neg nI10, em_of1 _ (by omega), nu_b, m1.2.2.2.2 jz hz 0 (by omega), if_neg (by decide), if_neg (by rw [nu_eq (by omega) (by decide)]; exact z0), if_neg (by decide), if_pos trivial, em_of1 _ (by omega), nu_b, m1.2.2.2.2 jz hz 4 (by omega), em_enjoysOf (by omega) h4 (m1.2.2.2.1 jx hx).1 c6, nu_b]
          · refine stp_ask (nI (kStruck (kd jx) (pr jz 1))) h ?_ ?_
            · unfold m_X11_does
              simp only [nu_lit]
              rw [ex_isPersonT k3.2.1 o1 hx, nu_b, if_neg nI10, ex_wT (by omega) (by omega) (by decide), nu_b, if_neg nI10, ex_isPresentT k3.2.2.1 o2 hz, nu_b, if_neg nI10, ex_mannerOf (by omega) ek c6, nu_b, nu_in (by omega) (by decide), nu_g, nu_cl (n := jz) (by omega), if_pos (by decide), if_neg (by decide), if_neg (by decide), if_pos trivial, e1, ex_isStruck c6 hr.2.1, nu_b]
            · have m1 := k4
              unfold m_X12_does
              simp only [nu_lit]
              rw [em_isPersonT m1.2.1 o1 hx, nu_b, if_neg nI10, em_in1T _ (by omega) (by omega) (by decide), nu_b, if_neg nI10, em_isPresentT m1.2.2.1 o2 hz, nu_b, if_neg nI10, em_of1 _ (by omega), nu_b, m1.2.2.2.2 jz hz 0 (by omega), if_pos (by decide), if_neg (by decide), if_neg (by decide), if_pos trivial, em_of1 _ (by omega), nu_b, m1.2.2.2.2 jz hz 1 (by omega), em_struckOf (by omega) hr.2.1 (m1.2.2.2.1 jx hx).1 c6, nu_b]
          · refine stp_ask (nI 1 + mPass (kPass (kd jx) dy (pr jz 0))) h ?_ ?_
            · unfold m_X11_does
              simp only [nu_lit]
              rw [ex_isPersonT k3.2.1 o1 hx, nu_b, if_neg nI10, ex_wT (by omega) (by omega) (by decide), nu_b, if_neg nI10, ex_isPresentT k3.2.2.1 o2 hz, nu_b, if_neg nI10, ex_mannerOf (by omega) ek c6, nu_b, nu_in (by omega) (by decide), nu_g, nu_cl (n := jz) (by omega), if_pos (by decide), if_neg (by decide), if_neg (by decide), if_neg (by decide), e0, k3.1, nu_rem (by omega) (by decide) (by decide), ex_passesOn c6 h0, nu_b]
            · have m1 := k4
              unfold m_X12_does
              simp only [nu_lit]
              rw [em_isPersonT m1.2.1 o1 hx, nu_b, if_neg nI10, em_in1T _ (by omega) (by omega) (by decide), nu_b, if_neg nI10, em_isPresentT m1.2.2.1 o2 hz, nu_b, if_neg nI10, em_of1 _ (by omega), nu_b, m1.2.2.2.2 jz hz 0 (by omega), if_pos (by decide), if_neg (by decide), if_neg (by decide), if_neg (by decide), em_passesOf (by omega) h0 (m1.2.2.2.1 jx hx).1 c6 m1.1 d20, nu_b]
      · refine stp_find 0 (by decide) h ?_ (fun σ1 hs => ?_)
        · unfold m_X11_does
          simp only [nu_lit, fnd0]
          rw [ex_isPersonT k3.2.1 o1 hx, nu_b, if_neg nI10, ex_wT (by omega) (by omega) (by decide), nu_b, if_neg nI10, ex_isPresentF k3.2.2.1 o2 hz, nu_b, if_pos rfl]
        · have m1 := k4.keep (fun k => hs 97 k (by omega))
          unfold m_X12_does
          simp only [nu_lit]
          rw [em_isPersonT m1.2.1 o1 hx, nu_b, if_neg nI10, em_in1T _ (by omega) (by omega) (by decide), nu_b, if_neg nI10, em_isPresentF m1.2.2.1 o2 hz, nu_b, if_pos rfl]
    · refine stp_find 0 (by decide) h ?_ (fun σ1 hs => ?_)
      · unfold m_X11_does
        simp only [nu_lit, fnd0]
        rw [ex_isPersonT k3.2.1 o1 hx, nu_b, if_neg nI10, ex_wF hv (by decide), nu_b, if_pos rfl]
      · have m1 := k4.keep (fun k => hs 97 k (by omega))
        unfold m_X12_does
        simp only [nu_lit]
        rw [em_isPersonT m1.2.1 o1 hx, nu_b, if_neg nI10, em_wF hv (by decide), nu_b, if_pos rfl]
  · refine stp_find 0 (by decide) h ?_ (fun σ1 hs => ?_)
    · unfold m_X11_does
      simp only [nu_lit, fnd0]
      rw [ex_isPersonF k3.2.1 o1 hx, nu_b, if_pos rfl]
    · have m1 := k4.keep (fun k => hs 97 k (by omega))
      unfold m_X12_does
      simp only [nu_lit]
      rw [em_isPersonF m1.2.1 o1 hx, nu_b, if_pos rfl]
