/-! ORDERS: the reference -/
def okF : Nat → (Nat → Nat) → Nat → Bool
  | 0, _, _ => true
  | n + 1, c, z => if 1 ≤ z % 10 ∧ z % 10 ≤ 4 ∧ 0 < c (z % 10) then okF n (fun d => if d = z % 10 then c d - 1 else c d) (z / 10) else false
def dgs : Nat → Nat → Prop
  | 0, z => z = 0
  | n + 1, z => 0 < z ∧ dgs n (z / 10)
def pkc (c : Nat → Nat) : Nat := c 1 + 6 * c 2 + 36 * c 3 + 216 * c 4
theorem sg_vec : ∀ (n u : Nat), ∃ a0 a1 a2 a3, a0 + a1 + a2 + a3 = n ∧ sg n u = a0 + 6 * a1 + 36 * a2 + 216 * a3
  | 0, _ => ⟨0, 0, 0, 0, rfl, rfl⟩
  | n + 1, u => by
    obtain ⟨a0, a1, a2, a3, h1, h2⟩ := sg_vec n (u / 4)
    rw [sg, h2]
    have : u % 4 = 0 ∨ u % 4 = 1 ∨ u % 4 = 2 ∨ u % 4 = 3 := by omega
    rcases this with z | z | z | z <;> rw [z]
    · exact ⟨a0 + 1, a1, a2, a3, by omega, by omega⟩
    · exact ⟨a0, a1 + 1, a2, a3, by omega, by omega⟩
    · exact ⟨a0, a1, a2 + 1, a3, by omega, by omega⟩
    · exact ⟨a0, a1, a2, a3 + 1, by omega, by omega⟩
theorem six1 {a b X Y : Nat} (h : a + 6 * X = b + 6 * Y) (ha : a < 6) (hb : b < 6) : a = b ∧ X = Y := by omega
theorem six4 {a0 a1 a2 a3 b0 b1 b2 b3 : Nat} (h : a0 + 6 * a1 + 36 * a2 + 216 * a3 = b0 + 6 * b1 + 36 * b2 + 216 * b3) (ha0 : a0 < 6) (ha1 : a1 < 6) (ha2 : a2 < 6) (hb0 : b0 < 6) (hb1 : b1 < 6) (hb2 : b2 < 6) : a0 = b0 ∧ a1 = b1 ∧ a2 = b2 ∧ a3 = b3 := by
  obtain ⟨e0, h1⟩ := six1 (X := a1 + 6 * (a2 + 6 * a3)) (Y := b1 + 6 * (b2 + 6 * b3)) (by omega) ha0 hb0
  obtain ⟨e1, h2⟩ := six1 h1 ha1 hb1
  obtain ⟨e2, h3⟩ := six1 h2 ha2 hb2
  exact ⟨e0, e1, e2, h3⟩
theorem okF_sg : ∀ (n : Nat) (c : Nat → Nat) (z : Nat), n ≤ 5 → c 1 + c 2 + c 3 + c 4 = n → dgs n z → okF n c z = (vd n z && decide (sg n (cz n z) = pkc c))
  | 0, c, z, _, hc, _ => by
    have e : pkc c = 0 := by unfold pkc; omega
    rw [okF, vd, sg, e]; rfl
  | n + 1, c, z, h5, hc, hz => by
    obtain ⟨a0, a1, a2, a3, s1, s2⟩ := sg_vec n (cz n (z / 10))
    rw [okF, vd, sg, cz]
    by_cases v : 1 ≤ z % 10 ∧ z % 10 ≤ 4
    · have m4 : (4 * cz n (z / 10) + (z % 10 - 1)) % 4 = z % 10 - 1 := by omega
      have d4 : (4 * cz n (z / 10) + (z % 10 - 1)) / 4 = cz n (z / 10) := by omega
      rw [m4, d4, decide_eq_true v, Bool.true_and]
      by_cases p : 0 < c (z % 10)
      · rw [if_pos ⟨v.1, v.2, p⟩, okF_sg n _ (z / 10) (by omega) ?_ hz.2]
        · congr 1
          apply decide_eq_decide.mpr
          have : z % 10 = 1 ∨ z % 10 = 2 ∨ z % 10 = 3 ∨ z % 10 = 4 := by omega
          unfold pkc
          rcases this with y | y | y | y <;> rw [y] at p ⊢ <;> simp <;> omega
        · have : z % 10 = 1 ∨ z % 10 = 2 ∨ z % 10 = 3 ∨ z % 10 = 4 := by omega
          rcases this with y | y | y | y <;> rw [y] at p ⊢ <;> simp <;> omega
      · rw [if_neg (fun q => p q.2.2)]
        have ne : ¬ 6 ^ (z % 10 - 1) + sg n (cz n (z / 10)) = pkc c := by
          rw [s2]
          unfold pkc
          have : z % 10 = 1 ∨ z % 10 = 2 ∨ z % 10 = 3 ∨ z % 10 = 4 := by omega
          rcases this with y | y | y | y <;> rw [y] at p ⊢ <;> intro q
          · have := six4 (a0 := a0 + 1) (a1 := a1) (a2 := a2) (a3 := a3) (b0 := c 1) (b1 := c 2) (b2 := c 3) (b3 := c 4) (by omega) (by omega) (by omega) (by omega) (by omega) (by omega) (by omega)
            omega
          · have := six4 (a0 := a0) (a1 := a1 + 1) (a2 := a2) (a3 := a3) (b0 := c 1) (b1 := c 2) (b2 := c 3) (b3 := c 4) (by omega) (by omega) (by omega) (by omega) (by omega) (by omega) (by omega)
            omega
          · have := six4 (a0 := a0) (a1 := a1) (a2 := a2 + 1) (a3 := a3) (b0 := c 1) (b1 := c 2) (b2 := c 3) (b3 := c 4) (by omega) (by omega) (by omega) (by omega) (by omega) (by omega) (by omega)
            omega
          · have := six4 (a0 := a0) (a1 := a1) (a2 := a2) (a3 := a3 + 1) (b0 := c 1) (b1 := c 2) (b2 := c 3) (b3 := c 4) (by omega) (by omega) (by omega) (by omega) (by omega) (by omega) (by omega)
            omega
        rw [decide_eq_false ne, Bool.and_false]
    · rw [if_neg (fun q => v ⟨q.1, q.2.1⟩), decide_eq_false v, Bool.false_and, Bool.false_and]
