/-! ORDERS: the codes -/
def dg : Nat → Nat → Nat → Nat
  | 0, _, _ => 0
  | n + 1, u, k => if k = n then u % 4 else dg n (u / 4) k
def cdr (r : Nat → Nat) : Nat → Nat
  | 0 => 0
  | n + 1 => 4 * cdr r n + r n
def sg : Nat → Nat → Nat
  | 0, _ => 0
  | n + 1, u => 6 ^ (u % 4) + sg n (u / 4)
def swp (r : Nat → Nat) (i j : Nat) : Nat → Nat := fun k => if k = j then r i else if k = i then r j else r k
-- the class's next row
def fi (r : Nat → Nat) : Nat → Nat
  | 0 => 0
  | k + 1 => if r k < r (k + 1) then k + 1 else fi r k
def fj (r : Nat → Nat) (i : Nat) : Nat → Nat
  | 0 => 0
  | k + 1 => if k + 1 ≤ i then k + 1 else if r i < r (k + 1) then k + 1 else fj r i k
def rv : Nat → (Nat → Nat) → Nat → Nat → Nat → Nat
  | 0, r, _, _ => r
  | n + 1, r, a, b => if b ≤ a then r else rv n (swp r a b) (a + 1) (b - 1)
def nxR (L : Nat) (r : Nat → Nat) : Nat → Nat := rv 4 (swp r (fi r (L - 1) - 1) (fj r (fi r (L - 1) - 1) (L - 1))) (fi r (L - 1)) (L - 1)
-- the class's first row
def ins : Nat → (Nat → Nat) → Nat → Nat
  | 0, r => r
  | j + 1, r => if r j ≤ r (j + 1) then r else ins j (swp r j (j + 1))
def srt (p : Nat → Nat) : Nat → (Nat → Nat) → Nat → Nat
  | 0, r => r
  | n + 1, r => ins n (fun k => if k = n then p n else srt p n r k)
def alB (f : Nat → Bool) : Nat → Nat → Bool
  | 0, _ => true
  | m + 1, i => f i && alB f m (i + 1)
theorem alB_at {f : Nat → Bool} : ∀ (m i j : Nat), alB f m i = true → i ≤ j → j < i + m → f j = true
  | 0, i, j, _, h1, h2 => by omega
  | m + 1, i, j, h, h1, h2 => by
    rw [alB, Bool.and_eq_true] at h
    by_cases e : j = i
    · subst e; exact h.1
    · exact alB_at m (i + 1) j h.2 (by omega) (by omega)
/-- how many codes of these counts are left -/
def cnS (L S : Nat) : Nat → Nat → Nat
  | 0, _ => 0
  | m + 1, c => (if sg L c = S then 1 else 0) + cnS L S m (c + 1)
def noS (L S : Nat) (m c : Nat) : Bool := alB (fun v => !(sg L v == S)) m c
def ndc (L u : Nat) : Bool := alB (fun k => decide (dg L u k ≤ dg L u (k + 1))) (L - 1) 0
def ck1 (L c : Nat) : Bool := alB (fun k => dg L (cdr (srt (dg L c) L (fun _ => 0)) L) k == srt (dg L c) L (fun _ => 0) k) L 0 && (decide (cdr (srt (dg L c) L (fun _ => 0)) L < 4 ^ L) && (sg L (cdr (srt (dg L c) L (fun _ => 0)) L) == sg L c && ndc L (cdr (srt (dg L c) L (fun _ => 0)) L)))
def ck2 (L u : Nat) : Bool := !ndc L u || (noS L (sg L u) u 0 && decide (cnS L (sg L u) (4 ^ L - u) u ≤ 100))
def ck3 (L u : Nat) : Bool := if fi (dg L u) (L - 1) = 0 then noS L (sg L u) (4 ^ L - (u + 1)) (u + 1) else alB (fun k => dg L (cdr (nxR L (dg L u)) L) k == nxR L (dg L u) k) L 0 && (decide (u < cdr (nxR L (dg L u)) L) && (decide (cdr (nxR L (dg L u)) L < 4 ^ L) && (sg L (cdr (nxR L (dg L u)) L) == sg L u && noS L (sg L u) (cdr (nxR L (dg L u)) L - (u + 1)) (u + 1))))
-- numbers
def zn : Nat → Nat → Nat
  | 0, _ => 0
  | n + 1, u => 10 * zn n (u / 4) + (u % 4 + 1)
def vd : Nat → Nat → Bool
  | 0, _ => true
  | n + 1, z => decide (1 ≤ z % 10 ∧ z % 10 ≤ 4) && vd n (z / 10)
def cz : Nat → Nat → Nat
  | 0, _ => 0
  | n + 1, z => 4 * cz n (z / 10) + (z % 10 - 1)
def ck4 (L u : Nat) : Bool := alB (fun z => !vd L z) (zn L (u + 1) - (zn L u + 1)) (zn L u + 1)
theorem ck1_1 : alB (ck1 1) 4 0 = true := by decide +kernel
theorem ck1_2 : alB (ck1 2) 16 0 = true := by decide +kernel
theorem ck1_3 : alB (ck1 3) 64 0 = true := by decide +kernel
theorem ck1_4 : alB (ck1 4) 256 0 = true := by decide +kernel
theorem ck2_1 : alB (ck2 1) 4 0 = true := by decide +kernel
theorem ck2_2 : alB (ck2 2) 16 0 = true := by decide +kernel
theorem ck2_3 : alB (ck2 3) 64 0 = true := by decide +kernel
theorem ck2_4 : alB (ck2 4) 256 0 = true := by decide +kernel
theorem ck3_1 : alB (ck3 1) 4 0 = true := by decide +kernel
theorem ck3_2 : alB (ck3 2) 16 0 = true := by decide +kernel
theorem ck3_3 : alB (ck3 3) 64 0 = true := by decide +kernel
theorem ck3_4 : alB (ck3 4) 256 0 = true := by decide +kernel
theorem ck4_1 : alB (ck4 1) 3 0 = true := by decide +kernel
theorem ck4_2 : alB (ck4 2) 15 0 = true := by decide +kernel
theorem ck4_3 : alB (ck4 3) 63 0 = true := by decide +kernel
theorem ck4_4 : alB (ck4 4) 255 0 = true := by decide +kernel
