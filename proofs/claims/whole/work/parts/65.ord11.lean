def fzS (L S : Nat) (v : Nat → Nat) : Nat → Nat → Int32 × Int32 → Int32 × Int32
  | 0, _, s => s
  | m + 1, z, s => fzS L S v m (z + 1) (if (vd L z && decide (sg L (cz L z) = S)) = true then (if nI (v (cz L z)) ≤ s.2 then s else (nI z, nI (v (cz L z)))) else s)
theorem fzS_skip {L S : Nat} {v : Nat → Nat} {m : Nat} : ∀ (k z : Nat) (s : Int32 × Int32), alB (fun z => !vd L z) k z = true → fzS L S v (k + m) z s = fzS L S v m (z + k) s
  | 0, z, s, _ => by rw [Nat.zero_add, Nat.add_zero]
  | k + 1, z, s, h => by
    rw [alB, Bool.and_eq_true] at h
    have h1 : vd L z = false := by have := h.1; simpa using this
    rw [show k + 1 + m = (k + m) + 1 by omega, fzS, h1, Bool.false_and, if_neg (by decide), fzS_skip k (z + 1) s h.2, show z + 1 + k = z + (k + 1) by omega]
theorem vd_zn : ∀ (n u : Nat), vd n (zn n u) = true
  | 0, _ => rfl
  | n + 1, u => by
    rw [vd, zn, show (10 * zn n (u / 4) + (u % 4 + 1)) / 10 = zn n (u / 4) by omega, vd_zn n (u / 4), Bool.and_true]
    exact decide_eq_true (by omega)
theorem cz_zn : ∀ (n u : Nat), u < 4 ^ n → cz n (zn n u) = u
  | 0, u, h => by rw [cz]; rw [Nat.pow_zero] at h; omega
  | n + 1, u, h => by
    rw [Nat.pow_succ] at h
    rw [cz, zn, show (10 * zn n (u / 4) + (u % 4 + 1)) / 10 = zn n (u / 4) by omega, cz_zn n (u / 4) (by omega)]; omega
theorem zn_lt : ∀ (n u : Nat), u + 1 < 4 ^ n → zn n u < zn n (u + 1)
  | 0, u, h => by rw [Nat.pow_zero] at h; omega
  | n + 1, u, h => by
    rw [Nat.pow_succ] at h
    rw [zn, zn]
    by_cases y : u % 4 = 3
    · have := zn_lt n (u / 4) (by omega)
      rw [show (u + 1) / 4 = u / 4 + 1 by omega]; omega
    · rw [show (u + 1) / 4 = u / 4 by omega]; omega
theorem zn_top {L : Nat} (h1 : 1 ≤ L) (h5 : L ≤ 5) : zn L (4 ^ L - 1) = 4 * zn L 0 := by
  have : L = 1 ∨ L = 2 ∨ L = 3 ∨ L = 4 ∨ L = 5 := by omega
  rcases this with rfl | rfl | rfl | rfl | rfl <;> decide
theorem zn_dgs {L z : Nat} (h1 : 1 ≤ L) (h5 : L ≤ 5) (ha : zn L 0 ≤ z) (hb : z ≤ 4 * zn L 0) : dgs L z ∧ z < 2 ^ 20 := by
  have : L = 1 ∨ L = 2 ∨ L = 3 ∨ L = 4 ∨ L = 5 := by omega
  rcases this with rfl | rfl | rfl | rfl | rfl
  · have e : zn 1 0 = 1 := rfl
    rw [e] at ha hb; simp only [dgs]; omega
  · have e : zn 2 0 = 11 := rfl
    rw [e] at ha hb; simp only [dgs]; omega
  · have e : zn 3 0 = 111 := rfl
    rw [e] at ha hb; simp only [dgs]; omega
  · have e : zn 4 0 = 1111 := rfl
    rw [e] at ha hb; simp only [dgs]; omega
  · have e : zn 5 0 = 11111 := rfl
    rw [e] at ha hb; simp only [dgs]; omega
theorem zn_mono {L : Nat} : ∀ (d u : Nat), u + d < 4 ^ L → zn L u ≤ zn L (u + d)
  | 0, u, _ => Nat.le_refl _
  | d + 1, u, h => by
    have h1 := zn_mono (L := L) d u (by omega)
    have h2 := zn_lt L (u + d) (by omega)
    rw [show u + (d + 1) = u + d + 1 by omega]; omega
theorem fz_fc {L S : Nat} {v : Nat → Nat} (h1 : 1 ≤ L) (h5 : L ≤ 5) : ∀ (j u : Nat) (s : Int32 × Int32), u + j + 1 = 4 ^ L → fzS L S v (4 * zn L 0 + 1 - zn L u) (zn L u) s = fcS L S v (j + 1) u s := by
  intro j
  induction j with
  | zero =>
    intro u s hu
    have e : zn L u = 4 * zn L 0 := by rw [← zn_top h1 h5]; congr 1; omega
    rw [show 4 * zn L 0 + 1 - zn L u = 0 + 1 by omega, fzS, fzS, fcS, fcS, vd_zn, cz_zn L u (by omega), Bool.true_and]
    by_cases y : sg L u = S
    · rw [if_pos (decide_eq_true y), if_pos y]
    · rw [if_neg (by rw [decide_eq_false y]; decide), if_neg y]
  | succ j ih =>
    intro u s hu
    have hlt := zn_lt L u (by omega)
    have htop := zn_mono (L := L) j (u + 1) (by omega)
    rw [show u + 1 + j = 4 ^ L - 1 by omega, zn_top h1 h5] at htop
    have c4 := ck4_all (c := u) h1 h5 (by omega)
    unfold ck4 at c4
    rw [show 4 * zn L 0 + 1 - zn L u = (zn L (u + 1) - (zn L u + 1) + (4 * zn L 0 + 1 - zn L (u + 1))) + 1 by omega, fzS, fzS_skip _ _ _ c4, show zn L u + 1 + (zn L (u + 1) - (zn L u + 1)) = zn L (u + 1) by omega, show fcS L S v (j + 1 + 1) u s = fcS L S v (j + 1) (u + 1) (if sg L u = S then (if nI (v u) ≤ s.2 then s else (nI (zn L u), nI (v u))) else s) from rfl, ih (u + 1) _ (by omega), vd_zn, cz_zn L u (by omega), Bool.true_and]
    by_cases y : sg L u = S
    · rw [if_pos (decide_eq_true y), if_pos y]
    · rw [if_neg (by rw [decide_eq_false y]; decide), if_neg y]
