/-! what the cells hold at the start -/
def s0 : fm_M := (fun i k => if i = 103 then txL.getD k 0 else if i = 104 then txO.getD k 0 else if i = 105 then txP.getD k 0 else 0, fun _ _ => 0)
def gA (D : va_G) (kA : Nat → ClassId) (a : Nat → Nat) : fm_G := (D, a, kA, (fun _ => 0), (fun _ => 0))
def cAt (D : va_G) (kA : Nat → ClassId) (a : Nat → Nat) (i : Nat) (H : Heap) : Prop := va_at D vwCl (a i, fm_ce (gA D kA a) s0 i) H
def cn_P (D : va_G) (kA : Nat → ClassId) (b n : Nat) (a : Nat → Nat) (w : va_W) : Prop := w.map Prod.fst = (List.range n).map (fun i => a (b + i)) ∧ ∀ H, va_P D vwCl w H → ∀ i, b ≤ i → i < b + n → cAt D kA a i H
theorem arrV_cg {c : ClassId} {n : Nat} {f g : Nat → Value} (h : ∀ j, j < n → f j = g j) : arrV c n f = arrV c n g := by
  have e : (fun j : Fin n => f j.val) = fun j => g j.val := funext fun j => h _ j.isLt
  unfold arrV
  rw [e]
theorem at_q {D : va_G} {cl : List vw_C} {q n : Nat} {cA : ClassId} {f f' : Nat → Option Nat} {H : Heap} (h : va_at D cl (q, .inl (cA, n, .inr (.inr (.inr (.inr f))))) H) (hf : ∀ j, j < n → f j = f' j) : va_at D cl (q, .inl (cA, n, .inr (.inr (.inr (.inr f'))))) H := by
  have h1 : H[q]? = some (vp_cell cA (n, .inr (.inr (.inr (.inr f))))) := h
  show H[q]? = some (vp_cell cA (n, .inr (.inr (.inr (.inr f')))))
  rw [h1, vp_cell_q, vp_cell_q, arrV_cg (fun j hj => by rw [hf j hj])]
theorem at_i {D : va_G} {cl : List vw_C} {q n : Nat} {cA : ClassId} {f f' : Nat → Int32} {H : Heap} (h : va_at D cl (q, .inl (cA, n, .inl f)) H) (hf : ∀ j, j < n → f j = f' j) : va_at D cl (q, .inl (cA, n, .inl f')) H := by
  have h1 : H[q]? = some (vp_cell cA (n, .inl f)) := h
  show H[q]? = some (vp_cell cA (n, .inl f'))
  rw [h1, vp_cell_i, vp_cell_i, arrV_cg (fun j hj => by rw [hf j hj])]
/-! Town's constructor -/
def pL (k : Nat) (pa : Nat → Nat) : va_W := (List.range k).map (fun i => (pa i, .inr (5, [.int 0, .int 0])))
def gL (kA : Nat → ClassId) (k : Nat) (ga ha : Nat → Nat) : va_W := (List.range k).flatMap (fun i => [(ga i, .inr (7, [.ref (ha i), .int 0, .int 0, .int 0, .int 0])), (ha i, .inl (kA 14, 6, .inl (fun _ => 0)))])
theorem pL_succ (k q : Nat) (pa : Nat → Nat) : pL (k + 1) (fun i => if i = k then q else pa i) = pL k pa ++ [(q, .inr (5, [.int 0, .int 0]))] := by
  unfold pL
  rw [List.range_succ, List.map_append]
  congr 1
  · apply List.map_congr_left
    intro i hi
    have := List.mem_range.mp hi
    dsimp only
    rw [if_neg (by omega)]
  · simp
theorem gL_succ (kA : Nat → ClassId) (k q r : Nat) (ga ha : Nat → Nat) : gL kA (k + 1) (fun i => if i = k then q else ga i) (fun i => if i = k then r else ha i) = gL kA k ga ha ++ [(q, .inr (7, [.ref r, .int 0, .int 0, .int 0, .int 0])), (r, .inl (kA 14, 6, .inl (fun _ => 0)))] := by
  unfold gL
  rw [List.range_succ, List.flatMap_append]
  congr 1
  · rw [List.flatMap_def, List.flatMap_def]
    congr 1
    apply List.map_congr_left
    intro i hi
    have := List.mem_range.mp hi
    dsimp only
    rw [if_neg (by omega), if_neg (by omega)]
  · simp
section TL
variable {p : Program} {l : Launch} {e : Env} {s : State} {m : MethodId} {args : Array Value} {below : List Frame} {meth : Method} {c : Code} {Q : State → Prop} {D : va_G} {kA : Nat → ClassId} {A : Nat → Prop} {h0 mm qf qg : Nat}
theorem t_loop1 (hC : cn_C D kA p m c cX10_init 3 s args RX10) (K : ∀ (pa : Nat → Nat) (f : Nat → Option Nat) (H : Heap) (locs : List Loc) (ls : Array Slot), (∀ j, j < 6 → f j = some (pa j)) → cn_I D A ((h0, .inr (10, [.ref mm, .ref qf, .null, .int 0, .int 0, .int 0])) :: (qf, .inl (kA 17, 6, .inr (.inr (.inr (.inr f))))) :: pL 6 pa) s H locs → lv_has ls 3 [(0, .ref h0), (1, .ref mm)] → W p l e { frames := 2, cells := 24, slots := 114, locals := 32 } s m args below meth c H locs 7 18 Q (F0 m 45 ls [])) :
    ∀ (n k : Nat), k + n = 6 → ∀ (pa : Nat → Nat) (f : Nat → Option Nat) (H : Heap) (locs : List Loc) (ls : Array Slot), (∀ j, j < k → f j = some (pa j)) → cn_I D A ((h0, .inr (10, [.ref mm, .ref qf, .null, .int 0, .int 0, .int 0])) :: (qf, .inl (kA 17, 6, .inr (.inr (.inr (.inr f))))) :: pL k pa) s H locs → lv_has ls 3 [(2, .int (nI k)), (0, .ref h0), (1, .ref mm)] → W p l e { frames := 2, cells := 24, slots := 114, locals := 32 } s m args below meth c H locs (1 + k) (6 + 2 * k) Q (F0 m 20 ls []) := by
  have hx := hC.1.1
  have hb := hC.1.2.1
  intro n
  induction n with
  | zero =>
    intro k hk pa f H locs ls hf hI hl
    have ek : k = 6 := by omega
    subst ek
    refine lv_iload_n hx hb dX10_init_20 rfl (lv_at hl 0 rfl) ?_
    refine lv_bipush (v := (6 : Int32)) hx hb dX10_init_21 (by decide) ?_
    exact lv_icmp_ge (tgt := 45) hx hb dX10_init_23 (by decide) (fun _ => K pa f H locs ls hf hI (lv_sub hl [1, 2] rfl)) (fun hc => absurd (by decide) hc)
  | succ n ih =>
    intro k hk pa f H locs ls hf hI hl
    refine lv_iload_n hx hb dX10_init_20 rfl (lv_at hl 0 rfl) ?_
    refine lv_bipush (v := (6 : Int32)) hx hb dX10_init_21 (by decide) ?_
    refine lv_icmp_ge (tgt := 45) hx hb dX10_init_23 (by decide) (fun hc => absurd hc (nI_ge (a := k) (b := 6) (by omega) (by decide))) (fun _ => ?_)
    refine lv_aload_n hx hb dX10_init_26 rfl (lv_at hl 1 rfl) ?_
    refine cn_get (fs := [.ref mm, .ref qf, .null, .int 0, .int 0, .int 0]) hC hI ff_X10_1 q_132 rfl dX10_init_27 ?_
    refine lv_iload_n hx hb dX10_init_30 rfl (lv_at hl 0 rfl) ?_
    refine cn_new0 (fs := [.int 0, .int 0]) (post := fun q w => w = [(q, .inr (5, [.int 0, .int 0]))]) hC hI cf_X5 q_81 (fun q sz => c_X5_init q sz _) mc_X5_init (List.mem_of_getElem? (i := 11) rfl) ⟨rfl, rfl⟩ ⟨Nat.le_of_ble_eq_true rfl, Nat.le_of_ble_eq_true rfl⟩ hl.1 (Nat.le_of_ble_eq_true rfl) ⟨by show 1 + k + 1 + 0 ≤ 24; omega, by show 6 + 2 * k + 2 + 0 ≤ 114; omega⟩ dX10_init_31 dX10_init_34 dX10_init_35 (fun q w H locs hp hI => ?_)
    subst hp
    have hI : cn_I D A ((h0, .inr (10, [.ref mm, .ref qf, .null, .int 0, .int 0, .int 0])) :: (qf, .inl (kA 17, 6, .inr (.inr (.inr (.inr f))))) :: (pL k pa ++ [(q, .inr (5, [.int 0, .int 0]))])) s H locs := hI
    obtain ⟨ix, hix⟩ := List.getElem?_of_mem (show (q, (.inr (5, [.int 0, .int 0]) : va_E)) ∈ ((h0, .inr (10, [.ref mm, .ref qf, .null, .int 0, .int 0, .int 0])) :: (qf, .inl (kA 17, 6, .inr (.inr (.inr (.inr f))))) :: (pL k pa ++ [(q, .inr (5, [.int 0, .int 0]))]) : va_W) by simp)
    obtain ⟨hP, hD, hS, hA⟩ := hI
    refine va_astq (r := (RX5, TX5, 2)) hx hb hC.2.1 hP hD hS 1 4 ix 5 rfl rfl hix rfl (vp_in_nI (show k < 6 by omega) (by decide)) dX10_init_38 (fun H locs hP hD hS => ?_)
    rw [nI_clamp (by omega)] at hP hD
    have hI : cn_I D A ((h0, .inr (10, [.ref mm, .ref qf, .null, .int 0, .int 0, .int 0])) :: (qf, .inl (kA 17, 6, .inr (.inr (.inr (.inr (va_up f k (some q))))))) :: (pL k pa ++ [(q, .inr (5, [.int 0, .int 0]))])) s H locs := ⟨hP, hD, hS, hA⟩
    rw [← pL_succ] at hI
    refine lv_iinc (v := nI (k + 1)) (lv' := [(2, .int (nI (k + 1))), (0, .ref h0), (1, .ref mm)]) hx hb dX10_init_39 hl (k := 0) rfl (nI_add k 1) (by decide) rfl (fun ls hl => ?_)
    refine lv_goto (tgt := 20) hx hb dX10_init_42 (by decide) ?_
    refine W.cs (cells' := 1 + (k + 1)) (slots' := 6 + 2 * (k + 1)) (by omega) (by omega) ?_
    refine ih (k + 1) (by omega) (fun i => if i = k then q else pa i) _ H locs ls (fun j hj => ?_) hI hl
    by_cases z : j = k
    · subst z; simp [va_up]
    · rw [if_neg z]
      simp only [va_up, if_neg z]
      exact hf j (by omega)
theorem t_loop2 (hC : cn_C D kA p m c cX10_init 3 s args RX10) {P : va_W} (K : ∀ (ga ha : Nat → Nat) (g : Nat → Option Nat) (H : Heap) (locs : List Loc) (ls : Array Slot), (∀ j, j < 8 → g j = some (ga j)) → cn_I D A ((h0, .inr (10, [.ref mm, .ref qf, .ref qg, .int 0, .int 0, .int 0])) :: (P ++ (qg, .inl (kA 18, 8, .inr (.inr (.inr (.inr g))))) :: gL kA 8 ga ha)) s H locs → W p l e { frames := 2, cells := 24, slots := 114, locals := 32 } s m args below meth c H locs 24 114 Q (F0 m 81 ls [])) :
    ∀ (n k : Nat), k + n = 8 → ∀ (ga ha : Nat → Nat) (g : Nat → Option Nat) (H : Heap) (locs : List Loc) (ls : Array Slot), (∀ j, j < k → g j = some (ga j)) → cn_I D A ((h0, .inr (10, [.ref mm, .ref qf, .ref qg, .int 0, .int 0, .int 0])) :: (P ++ (qg, .inl (kA 18, 8, .inr (.inr (.inr (.inr g))))) :: gL kA k ga ha)) s H locs → lv_has ls 3 [(2, .int (nI k)), (0, .ref h0), (1, .ref mm)] → W p l e { frames := 2, cells := 24, slots := 114, locals := 32 } s m args below meth c H locs (8 + 2 * k) (26 + 11 * k) Q (F0 m 56 ls []) := by
  have hx := hC.1.1
  have hb := hC.1.2.1
  intro n
  induction n with
  | zero =>
    intro k hk ga ha g H locs ls hf hI hl
    have ek : k = 8 := by omega
    subst ek
    refine lv_iload_n hx hb dX10_init_56 rfl (lv_at hl 0 rfl) ?_
    refine lv_bipush (v := (8 : Int32)) hx hb dX10_init_57 (by decide) ?_
    exact lv_icmp_ge (tgt := 81) hx hb dX10_init_59 (by decide) (fun _ => K ga ha g H locs ls hf hI) (fun hc => absurd (by decide) hc)
  | succ n ih =>
    intro k hk ga ha g H locs ls hf hI hl
    refine lv_iload_n hx hb dX10_init_56 rfl (lv_at hl 0 rfl) ?_
    refine lv_bipush (v := (8 : Int32)) hx hb dX10_init_57 (by decide) ?_
    refine lv_icmp_ge (tgt := 81) hx hb dX10_init_59 (by decide) (fun hc => absurd hc (nI_ge (a := k) (b := 8) (by omega) (by decide))) (fun _ => ?_)
    refine lv_aload_n hx hb dX10_init_62 rfl (lv_at hl 1 rfl) ?_
    refine cn_get (fs := [.ref mm, .ref qf, .ref qg, .int 0, .int 0, .int 0]) hC hI ff_X10_2 q_134 rfl dX10_init_63 ?_
    refine lv_iload_n hx hb dX10_init_66 rfl (lv_at hl 0 rfl) ?_
    refine cn_new0 (fs := [.null, .int 0, .int 0, .int 0, .int 0]) (post := fun q w => w_X7 kA q w) hC hI cf_X7 q_99 (fun q sz => c_X7_init q sz) mc_X7_init (List.mem_of_getElem? (i := 12) rfl) ⟨rfl, rfl⟩ ⟨Nat.le_of_ble_eq_true rfl, Nat.le_of_ble_eq_true rfl⟩ hl.1 (Nat.le_of_ble_eq_true rfl) ⟨by show 8 + 2 * k + 1 + 1 ≤ 24; omega, by show 26 + 11 * k + 5 + 6 ≤ 114; omega⟩ dX10_init_67 dX10_init_70 dX10_init_71 (fun q w H locs hp hI => ?_)
    obtain ⟨r, hp⟩ := hp
    subst hp
    have hI : cn_I D A ((h0, .inr (10, [.ref mm, .ref qf, .ref qg, .int 0, .int 0, .int 0])) :: (P ++ (qg, .inl (kA 18, 8, .inr (.inr (.inr (.inr g))))) :: (gL kA k ga ha ++ [(q, .inr (7, [.ref r, .int 0, .int 0, .int 0, .int 0])), (r, .inl (kA 14, 6, .inl (fun _ => 0)))]))) s H locs := by
      have h9 := hI
      rw [List.cons_append, List.append_assoc, List.cons_append] at h9
      exact h9
    obtain ⟨ix, hix⟩ := List.getElem?_of_mem (show (q, (.inr (7, [.ref r, .int 0, .int 0, .int 0, .int 0]) : va_E)) ∈ ((h0, .inr (10, [.ref mm, .ref qf, .ref qg, .int 0, .int 0, .int 0])) :: (P ++ (qg, .inl (kA 18, 8, .inr (.inr (.inr (.inr g))))) :: (gL kA k ga ha ++ [(q, .inr (7, [.ref r, .int 0, .int 0, .int 0, .int 0])), (r, .inl (kA 14, 6, .inl (fun _ => 0)))])) : va_W) by simp)
    obtain ⟨hP, hD, hS, hA⟩ := hI
    refine va_astq (r := (RX7, TX7, 5)) hx hb hC.2.1 hP hD hS (P.length + 1) 5 ix 7 (get_mid P _ _) rfl hix rfl (vp_in_nI (show k < 8 by omega) (by decide)) dX10_init_74 (fun H locs hP hD hS => ?_)
    rw [nI_clamp (by omega), List.set_cons_succ, set_mid] at hP hD
    have hI : cn_I D A ((h0, .inr (10, [.ref mm, .ref qf, .ref qg, .int 0, .int 0, .int 0])) :: (P ++ (qg, .inl (kA 18, 8, .inr (.inr (.inr (.inr (va_up g k (some q))))))) :: (gL kA k ga ha ++ [(q, .inr (7, [.ref r, .int 0, .int 0, .int 0, .int 0])), (r, .inl (kA 14, 6, .inl (fun _ => 0)))]))) s H locs := ⟨hP, hD, hS, hA⟩
    rw [← gL_succ] at hI
    refine lv_iinc (v := nI (k + 1)) (lv' := [(2, .int (nI (k + 1))), (0, .ref h0), (1, .ref mm)]) hx hb dX10_init_75 hl (k := 0) rfl (nI_add k 1) (by decide) rfl (fun ls hl => ?_)
    refine lv_goto (tgt := 56) hx hb dX10_init_78 (by decide) ?_
    refine W.cs (cells' := 8 + 2 * (k + 1)) (slots' := 26 + 11 * (k + 1)) (by omega) (by omega) ?_
    refine ih (k + 1) (by omega) (fun i => if i = k then q else ga i) (fun i => if i = k then r else ha i) _ H locs ls (fun j hj => ?_) hI hl
    by_cases z : j = k
    · subst z; simp [va_up]
    · rw [if_neg z]
      simp only [va_up, if_neg z]
      exact hf j (by omega)
end TL
def tW (kA : Nat → ClassId) (h0 mm qf qg : Nat) (f g : Nat → Option Nat) (pa ga ha : Nat → Nat) : va_W := (h0, .inr (10, [.ref mm, .ref qf, .ref qg, .int 0, .int 0, .int 0])) :: (qf, .inl (kA 17, 6, .inr (.inr (.inr (.inr f))))) :: (pL 6 pa ++ (qg, .inl (kA 18, 8, .inr (.inr (.inr (.inr g))))) :: gL kA 8 ga ha)
def tA (b h0 mm qf qg : Nat) (pa ga ha : Nat → Nat) : Nat → Nat := fun j => if j = 1 then mm else [h0, qf, pa 0, pa 1, pa 2, pa 3, pa 4, pa 5, qg, ga 0, ha 0, ga 1, ha 1, ga 2, ha 2, ga 3, ha 3, ga 4, ha 4, ga 5, ha 5, ga 6, ha 6, ga 7, ha 7].getD (j - b) 0
def w_X10 (D : va_G) (kA : Nat → ClassId) (b h0 mm : Nat) (w : va_W) : Prop := ∃ a : Nat → Nat, a b = h0 ∧ a 1 = mm ∧ cn_P D kA b 25 a w
theorem t_fin8 {D : va_G} {kA : Nat → ClassId} {h0 mm qf qg : Nat} {f g : Nat → Option Nat} {pa ga ha : Nat → Nat} (hf : ∀ j, j < 6 → f j = some (pa j)) (hg : ∀ j, j < 8 → g j = some (ga j)) : w_X10 D kA 8 h0 mm (tW kA h0 mm qf qg f g pa ga ha) := by
  refine ⟨tA 8 h0 mm qf qg pa ga ha, rfl, rfl, rfl, fun H hP i h1 h2 => ?_⟩
  have h : i = 8 ∨ i = 9 ∨ i = 10 ∨ i = 11 ∨ i = 12 ∨ i = 13 ∨ i = 14 ∨ i = 15 ∨ i = 16 ∨ i = 17 ∨ i = 18 ∨ i = 19 ∨ i = 20 ∨ i = 21 ∨ i = 22 ∨ i = 23 ∨ i = 24 ∨ i = 25 ∨ i = 26 ∨ i = 27 ∨ i = 28 ∨ i = 29 ∨ i = 30 ∨ i = 31 ∨ i = 32 := by omega
  rcases h with rfl | rfl | rfl | rfl | rfl | rfl | rfl | rfl | rfl | rfl | rfl | rfl | rfl | rfl | rfl | rfl | rfl | rfl | rfl | rfl | rfl | rfl | rfl | rfl | rfl
  · exact hP 0 _ rfl
  · refine at_q (hP 1 (qf, .inl (kA 17, 6, .inr (.inr (.inr (.inr f))))) rfl) (fun j hj => ?_)
    have hj : j < 6 := hj
    rw [hf j hj]
    have h : j = 0 ∨ j = 1 ∨ j = 2 ∨ j = 3 ∨ j = 4 ∨ j = 5 := by omega
    rcases h with rfl | rfl | rfl | rfl | rfl | rfl <;> rfl
  · exact hP 2 _ rfl
  · exact hP 3 _ rfl
  · exact hP 4 _ rfl
  · exact hP 5 _ rfl
  · exact hP 6 _ rfl
  · exact hP 7 _ rfl
  · refine at_q (hP 8 (qg, .inl (kA 18, 8, .inr (.inr (.inr (.inr g))))) rfl) (fun j hj => ?_)
    have hj : j < 8 := hj
    rw [hg j hj]
    have h : j = 0 ∨ j = 1 ∨ j = 2 ∨ j = 3 ∨ j = 4 ∨ j = 5 ∨ j = 6 ∨ j = 7 := by omega
    rcases h with rfl | rfl | rfl | rfl | rfl | rfl | rfl | rfl <;> rfl
  · exact hP 9 _ rfl
  · exact hP 10 _ rfl
  · exact hP 11 _ rfl
  · exact hP 12 _ rfl
  · exact hP 13 _ rfl
  · exact hP 14 _ rfl
  · exact hP 15 _ rfl
  · exact hP 16 _ rfl
  · exact hP 17 _ rfl
  · exact hP 18 _ rfl
  · exact hP 19 _ rfl
  · exact hP 20 _ rfl
  · exact hP 21 _ rfl
  · exact hP 22 _ rfl
  · exact hP 23 _ rfl
  · exact hP 24 _ rfl
theorem t_fin33 {D : va_G} {kA : Nat → ClassId} {h0 mm qf qg : Nat} {f g : Nat → Option Nat} {pa ga ha : Nat → Nat} (hf : ∀ j, j < 6 → f j = some (pa j)) (hg : ∀ j, j < 8 → g j = some (ga j)) : w_X10 D kA 33 h0 mm (tW kA h0 mm qf qg f g pa ga ha) := by
  refine ⟨tA 33 h0 mm qf qg pa ga ha, rfl, rfl, rfl, fun H hP i h1 h2 => ?_⟩
  have h : i = 33 ∨ i = 34 ∨ i = 35 ∨ i = 36 ∨ i = 37 ∨ i = 38 ∨ i = 39 ∨ i = 40 ∨ i = 41 ∨ i = 42 ∨ i = 43 ∨ i = 44 ∨ i = 45 ∨ i = 46 ∨ i = 47 ∨ i = 48 ∨ i = 49 ∨ i = 50 ∨ i = 51 ∨ i = 52 ∨ i = 53 ∨ i = 54 ∨ i = 55 ∨ i = 56 ∨ i = 57 := by omega
  rcases h with rfl | rfl | rfl | rfl | rfl | rfl | rfl | rfl | rfl | rfl | rfl | rfl | rfl | rfl | rfl | rfl | rfl | rfl | rfl | rfl | rfl | rfl | rfl | rfl | rfl
  · exact hP 0 _ rfl
  · refine at_q (hP 1 (qf, .inl (kA 17, 6, .inr (.inr (.inr (.inr f))))) rfl) (fun j hj => ?_)
    have hj : j < 6 := hj
    rw [hf j hj]
    have h : j = 0 ∨ j = 1 ∨ j = 2 ∨ j = 3 ∨ j = 4 ∨ j = 5 := by omega
    rcases h with rfl | rfl | rfl | rfl | rfl | rfl <;> rfl
  · exact hP 2 _ rfl
  · exact hP 3 _ rfl
  · exact hP 4 _ rfl
  · exact hP 5 _ rfl
  · exact hP 6 _ rfl
  · exact hP 7 _ rfl
  · refine at_q (hP 8 (qg, .inl (kA 18, 8, .inr (.inr (.inr (.inr g))))) rfl) (fun j hj => ?_)
    have hj : j < 8 := hj
    rw [hg j hj]
    have h : j = 0 ∨ j = 1 ∨ j = 2 ∨ j = 3 ∨ j = 4 ∨ j = 5 ∨ j = 6 ∨ j = 7 := by omega
    rcases h with rfl | rfl | rfl | rfl | rfl | rfl | rfl | rfl <;> rfl
  · exact hP 9 _ rfl
  · exact hP 10 _ rfl
  · exact hP 11 _ rfl
  · exact hP 12 _ rfl
  · exact hP 13 _ rfl
  · exact hP 14 _ rfl
  · exact hP 15 _ rfl
  · exact hP 16 _ rfl
  · exact hP 17 _ rfl
  · exact hP 18 _ rfl
  · exact hP 19 _ rfl
  · exact hP 20 _ rfl
  · exact hP 21 _ rfl
  · exact hP 22 _ rfl
  · exact hP 23 _ rfl
  · exact hP 24 _ rfl
theorem t_fin58 {D : va_G} {kA : Nat → ClassId} {h0 mm qf qg : Nat} {f g : Nat → Option Nat} {pa ga ha : Nat → Nat} (hf : ∀ j, j < 6 → f j = some (pa j)) (hg : ∀ j, j < 8 → g j = some (ga j)) : w_X10 D kA 58 h0 mm (tW kA h0 mm qf qg f g pa ga ha) := by
  refine ⟨tA 58 h0 mm qf qg pa ga ha, rfl, rfl, rfl, fun H hP i h1 h2 => ?_⟩
  have h : i = 58 ∨ i = 59 ∨ i = 60 ∨ i = 61 ∨ i = 62 ∨ i = 63 ∨ i = 64 ∨ i = 65 ∨ i = 66 ∨ i = 67 ∨ i = 68 ∨ i = 69 ∨ i = 70 ∨ i = 71 ∨ i = 72 ∨ i = 73 ∨ i = 74 ∨ i = 75 ∨ i = 76 ∨ i = 77 ∨ i = 78 ∨ i = 79 ∨ i = 80 ∨ i = 81 ∨ i = 82 := by omega
  rcases h with rfl | rfl | rfl | rfl | rfl | rfl | rfl | rfl | rfl | rfl | rfl | rfl | rfl | rfl | rfl | rfl | rfl | rfl | rfl | rfl | rfl | rfl | rfl | rfl | rfl
  · exact hP 0 _ rfl
  · refine at_q (hP 1 (qf, .inl (kA 17, 6, .inr (.inr (.inr (.inr f))))) rfl) (fun j hj => ?_)
    have hj : j < 6 := hj
    rw [hf j hj]
    have h : j = 0 ∨ j = 1 ∨ j = 2 ∨ j = 3 ∨ j = 4 ∨ j = 5 := by omega
    rcases h with rfl | rfl | rfl | rfl | rfl | rfl <;> rfl
  · exact hP 2 _ rfl
  · exact hP 3 _ rfl
  · exact hP 4 _ rfl
  · exact hP 5 _ rfl
  · exact hP 6 _ rfl
  · exact hP 7 _ rfl
  · refine at_q (hP 8 (qg, .inl (kA 18, 8, .inr (.inr (.inr (.inr g))))) rfl) (fun j hj => ?_)
    have hj : j < 8 := hj
    rw [hg j hj]
    have h : j = 0 ∨ j = 1 ∨ j = 2 ∨ j = 3 ∨ j = 4 ∨ j = 5 ∨ j = 6 ∨ j = 7 := by omega
    rcases h with rfl | rfl | rfl | rfl | rfl | rfl | rfl | rfl <;> rfl
  · exact hP 9 _ rfl
  · exact hP 10 _ rfl
  · exact hP 11 _ rfl
  · exact hP 12 _ rfl
  · exact hP 13 _ rfl
  · exact hP 14 _ rfl
  · exact hP 15 _ rfl
  · exact hP 16 _ rfl
  · exact hP 17 _ rfl
  · exact hP 18 _ rfl
  · exact hP 19 _ rfl
  · exact hP 20 _ rfl
  · exact hP 21 _ rfl
  · exact hP 22 _ rfl
  · exact hP 23 _ rfl
  · exact hP 24 _ rfl
theorem c_X10_init {l : Launch} {D : va_G} {kA : Nat → ClassId} (h0 mm sz : Nat) {post : va_W → Prop} (hpost : ∀ (qf qg : Nat) (f g : Nat → Option Nat) (pa ga ha : Nat → Nat), (∀ j, j < 6 → f j = some (pa j)) → (∀ j, j < 8 → g j = some (ga j)) → post (tW kA h0 mm qf qg f g pa ga ha)) : Met l yX10_init (fm_w yX10_init cX10_init 3 none) { frames := 2, cells := 24, slots := 114, locals := 32 } (va_Pc [.ref h0, .ref mm] (cn_st D kA [(h0, .inr (10, [.null, .null, .null, .int 0, .int 0, .int 0]))] sz)) (cn_Q D [(h0, .inr (10, [.null, .null, .null, .int 0, .int 0, .int 0]))] sz post) 24 114 (va_A [(h0, .inr (10, [.null, .null, .null, .int 0, .int 0, .int 0]))] sz) := by
  refine cn_mth (own := RX10) rfl (by decide +kernel) (Nat.le_of_ble_eq_true rfl) ?_
  intro p e s m below meth c ls hC hr hlk hnm hsz hI hl
  subst hsz
  have hx := hC.1.1
  have hb := hC.1.2.1
  have hl : lv_has ls 3 [(0, .ref h0), (1, .ref mm)] := hl
  refine lv_aload_n hx hb dX10_init_0 rfl (lv_at hl 0 rfl) ?_
  refine cn_obj hC hl.1 q_80 ⟨Nat.le_of_ble_eq_true rfl, Nat.le_of_ble_eq_true rfl⟩ dX10_init_1 ?_
  refine lv_aload_n hx hb dX10_init_4 rfl (lv_at hl 0 rfl) ?_
  refine lv_aload_n hx hb dX10_init_5 rfl (lv_at hl 1 rfl) ?_
  refine cn_put (fs := [.null, .null, .null, .int 0, .int 0, .int 0]) hC hI ff_X10_0 hnm rfl rfl q_131 (Nat.le_of_ble_eq_true rfl) dX10_init_6 (fun H locs hI => ?_)
  refine lv_aload_n hx hb dX10_init_9 rfl (lv_at hl 0 rfl) ?_
  refine lv_bipush (v := (6 : Int32)) hx hb dX10_init_10 (by decide) ?_
  refine cn_newq (N := 6) (t0 := 4) (k0 := 17) hC hI q_81 (List.mem_of_getElem? (i := 1) rfl) rfl (by decide) (by decide) (by decide) (Nat.le_of_ble_eq_true rfl) (Nat.le_of_ble_eq_true rfl) dX10_init_12 (fun qf H hI => ?_)
  refine cn_put (fs := [.ref mm, .null, .null, .int 0, .int 0, .int 0]) hC hI ff_X10_1 hnm rfl rfl q_132 (Nat.le_of_ble_eq_true rfl) dX10_init_15 (fun H locs hI => ?_)
  refine lv_iconst (v := (0 : Int32)) hx hb dX10_init_18 (by decide) ?_
  refine lv_istore_n (lv' := [(2, .int (0 : Int32)), (0, .ref h0), (1, .ref mm)]) hx hb dX10_init_19 rfl hl (by decide) rfl (fun ls hl => ?_)
  refine t_loop1 hC (fun pa f H locs ls hf hI hl => ?_) 6 0 (by decide) (fun _ => 0) (fun _ => none) H locs ls (fun j hj => absurd hj (Nat.not_lt_zero j)) hI hl
  refine lv_aload_n hx hb dX10_init_45 rfl (lv_at hl 0 rfl) ?_
  refine lv_bipush (v := (8 : Int32)) hx hb dX10_init_46 (by decide) ?_
  refine cn_newq (N := 8) (t0 := 5) (k0 := 18) hC hI q_99 (List.mem_of_getElem? (i := 2) rfl) rfl (by decide) (by decide) (by decide) (Nat.le_of_ble_eq_true rfl) (Nat.le_of_ble_eq_true rfl) dX10_init_48 (fun qg H hI => ?_)
  refine cn_put (fs := [.ref mm, .ref qf, .null, .int 0, .int 0, .int 0]) hC hI ff_X10_2 hnm rfl rfl q_134 (Nat.le_of_ble_eq_true rfl) dX10_init_51 (fun H locs hI => ?_)
  refine lv_iconst (v := (0 : Int32)) hx hb dX10_init_54 (by decide) ?_
  refine lv_istore_n (lv' := [(2, .int (0 : Int32)), (0, .ref h0), (1, .ref mm)]) hx hb dX10_init_55 rfl hl (by decide) rfl (fun ls hl => ?_)
  refine t_loop2 (P := (qf, .inl (kA 17, 6, .inr (.inr (.inr (.inr f))))) :: pL 6 pa) hC (fun ga ha g H locs ls hg hI => ?_) 8 0 (by decide) (fun _ => 0) (fun _ => 0) (fun _ => none) H locs ls (fun j hj => absurd hj (Nat.not_lt_zero j)) hI hl
  exact cn_vr hC hr hlk hI (hpost qf qg f g pa ga ha hf hg) (Nat.le_refl _) (Nat.le_refl _) dX10_init_81
