/-! THE START: both made -/
theorem cl_0 : ∀ i, i < 96 → ∀ k, k < 20 → fm_isr i k = true → fm_rf i k < 96 := by decide +kernel
theorem cl_96 : ∀ i, i < 110 → 96 ≤ i → ∀ k, k < 20 → fm_isr i k = true → 96 ≤ fm_rf i k ∧ fm_rf i k < 110 := by decide +kernel
def oA (a1 a2 : Nat → Nat) : Nat → Nat := fun j => if j < 96 then a1 j else a2 j
theorem o_map {D : va_G} {kA : Nat → ClassId} {a1 a2 : Nat → Nat} {w1 w2 : va_W} (h1 : cn_P D kA 0 96 a1 w1) (h2 : cn_P D kA 96 14 a2 w2) : (w1 ++ w2).map Prod.fst = (List.range 110).map (oA a1 a2) := by
  rw [List.map_append, h1.1, h2.1]
  rfl
theorem o_P {D : va_G} {kA : Nat → ClassId} {a1 a2 adK adV : Nat → Nat} {w1 w2 : va_W} {H : Heap} (h1 : cn_P D kA 0 96 a1 w1) (h2 : cn_P D kA 96 14 a2 w2) (hP : va_P D vwCl (w1 ++ w2) H) : va_P D vwCl (fm_wl (D, oA a1 a2, kA, adK, adV) s0) H := by
  intro k q hq
  have hk : k < 110 := by
    have := (List.getElem?_eq_some_iff.mp hq).1
    rwa [fm_len] at this
  rw [fm_at hk] at hq
  cases hq
  have hc : cAt D kA (oA a1 a2) k H := by
    by_cases z : k < 96
    · refine (h1.2 H hP.l k (by omega) (by omega)).to (by unfold oA; rw [if_pos z]) (fun j hj => ?_)
      have := cl_0 k z j (isr_lt hk hj) hj
      unfold oA
      rw [if_pos this]
    · refine (h2.2 H hP.r k (by omega) (by omega)).to (by unfold oA; rw [if_neg z]) (fun j hj => ?_)
      have := cl_96 k hk (by omega) j (isr_lt hk hj) hj
      unfold oA
      rw [if_neg (by omega)]
  exact hc
theorem o_at {a : Nat → Nat} {w : va_W} (h : w.map Prod.fst = (List.range 110).map a) {i : Nat} (hi : i < 110) : ∃ e : va_E, w[i]? = some (a i, e) := by
  have h1 : (w.map Prod.fst)[i]? = some (a i) := by rw [h, List.getElem?_map, List.getElem?_range hi]; rfl
  rw [List.getElem?_map] at h1
  cases hw : w[i]? with
  | none => rw [hw] at h1; cases h1
  | some x =>
    rw [hw] at h1
    obtain ⟨y, e⟩ := x
    cases h1
    exact ⟨e, rfl⟩
theorem s0_z {i k : Nat} (h1 : i ≠ 103) (h2 : i ≠ 104) (h3 : i ≠ 105) : s0.1 i k = nI 0 := by
  show (if i = 103 then _ else if i = 104 then _ else if i = 105 then _ else _) = _
  rw [if_neg h1, if_neg h2, if_neg h3]
  rfl
theorem s0_inv : Inv s0 := by
  refine ⟨⟨⟨?_, Or.inl ?_⟩, ⟨0, by omega, ?_, ?_, fun i hi => by omega⟩, fun s hs => ?_, fun k hk => ?_, fun k hk => rfl, fun k hk => rfl, fun k hk => rfl⟩, 0, 0, 0, fun _ => 0, fun _ => 0, fun _ _ => 0, ⟨by omega, by omega, by decide, fun k hk => by omega, fun g hg => by omega⟩, by omega, ⟨?_, ?_, ?_, fun k hk => by omega, fun g hg => by omega⟩, ⟨?_, ?_, ?_, fun k hk => by omega, fun g hg => by omega⟩⟩
  · rw [s0_z (by omega) (by omega) (by omega), s0_z (by omega) (by omega) (by omega)]
  · exact s0_z (by omega) (by omega) (by omega)
  · exact s0_z (by omega) (by omega) (by omega)
  · exact s0_z (by omega) (by omega) (by omega)
  · rw [s0_z (by omega) (by omega) (by omega), s0_z (by omega) (by omega) (by omega), s0_z (by omega) (by omega) (by omega), s0_z (by omega) (by omega) (by omega)]
    exact ⟨rfl, Or.inl rfl, 0, by omega, rfl, rfl, fun _ => rfl, fun i hi => rfl⟩
  · rw [s0_z (by omega) (by omega) (by omega), s0_z (by omega) (by omega) (by omega)]
  · exact s0_z (by omega) (by omega) (by omega)
  · exact s0_z (by omega) (by omega) (by omega)
  · exact s0_z (by omega) (by omega) (by omega)
  · exact s0_z (by omega) (by omega) (by omega)
  · exact s0_z (by omega) (by omega) (by omega)
  · exact s0_z (by omega) (by omega) (by omega)
