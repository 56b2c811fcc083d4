/-! THE CLASS'S CONSTRUCTOR -/
section CX
variable {p : Program} {l : Launch} {e : Env} {R : Room} {s : State} {m : MethodId} {args : Array Value} {below : List Frame} {meth : Method} {c : Code} {H : Heap} {locs : List Loc} {cells slots : Nat} {Q : State → Prop}
variable {cc : ByteArray} {pc nL : Nat} {ls : Array Slot} {rest : List Value} {D : va_G} {kA : Nat → ClassId} {own : String} {A : Nat → Prop} {ws : va_W}
theorem cn_man {index : Nat} (hC : cn_C D kA p m c cc nL s args own) (hI : cn_I D A ws s H locs) (hl : Cond.methodLink own index yX11_allManners ∈ fm_tb) (hR : 5 ≤ R.frames ∧ 92 ≤ R.locals) (hcs : cells + 7 ≤ R.cells ∧ slots + 6 ≤ R.slots) (hsz : ls.size = nL) (hdg : decode cc pc = .ok (.invokestatic index, 3))
    (kk : ∀ (qa : Nat) (w : va_W) (H1 : Heap) (locs1 : List Loc), w_mn D kA qa w → cn_I D A (ws ++ w) s H1 locs1 → W p l e R s m args below meth c H1 locs1 (cells + 7) (slots + 6) Q (F0 m (pc + 3) ls [.ref qa])) : W p l e R s m args below meth c H locs cells slots Q (F0 m pc ls []) := by
  have hI' : cn_I D A (ws ++ []) s H locs := by rw [List.append_nil]; exact hI
  have hts := hC.1.2.2.2.2
  have hm := mS_X11_allManners
  have hr : va_Run p l e R s m args below meth c H locs cells slots 7 6 (F0 m pc ls []) [] (cn_R D kA H.size ([] : List Value).toArray) (va_A [] H.size) := va_runS hC.1 (c_X11_allManners (l := l) (D := D) (kA := kA) H.size) ⟨callB_of 0 hts (fm_goodC hm.2.2.1) rfl rfl rfl (hts _ hm.2.1) (hts _ hl) hm.2.2.2 hR, hts _ hm.1⟩ ⟨cn_blind, cn_pre hC hI'⟩ rfl rfl hsz rfl (lv_room (Nat.le_of_ble_eq_true rfl)) hdg hcs
  obtain ⟨hP, hD, hS, hA⟩ := hI'
  have hF : ∀ q, va_A [] H.size q → A q := by
    intro q h
    rcases h with ⟨k, e, h⟩ | h
    · cases h
    · exact hA q (Nat.le_trans hS.1 h)
  refine va_callr hr hS (fun q _ h => hF q h) hF (fun w qa t H1 locs1 ht hvm hp hB hz hk hS => ?_)
  obtain ⟨hw, hP1, hD1⟩ := hB
  rw [ht] at hP1
  obtain ⟨hP2, hD2⟩ := cn_joinA hP hD hk hF hP1 hD1
  exact kk qa w H1 locs1 hw ⟨hP2, hD2, hS, hA⟩
theorem cn_newT {b mm i1 i2 : Nat} {lv : List (Nat × Value)} (hC : cn_C D kA p m c cc nL s args own) (hI : cn_I D A ws s H locs) (hl : Cond.classLink own i1 RX10 ∈ fm_tb) (hl2 : Cond.methodLink own i2 yX10_init ∈ fm_tb) (hfin : ∀ (h0 qf qg : Nat) (f g : Nat → Option Nat) (pa ga ha : Nat → Nat), (∀ j, j < 6 → f j = some (pa j)) → (∀ j, j < 8 → g j = some (ga j)) → w_X10 D kA b h0 mm (tW kA h0 mm qf qg f g pa ga ha)) (hR : 3 ≤ R.frames ∧ 54 ≤ R.locals) (hsz : ls.size = nL) (h1 : ls[1]? = some (.val (.ref mm))) (hW : (rest.map fun v => v.category).sum ≤ 7) (hcs : cells + 1 + 24 ≤ R.cells ∧ slots + 6 + 114 ≤ R.slots)
    (d1 : decode cc pc = .ok (.new i1, 3)) (d2 : decode cc (pc + 3) = .ok (.dup, 1)) (d3 : decode cc (pc + 4) = .ok (.aload_n 1, 1)) (d4 : decode cc (pc + 5) = .ok (.invokespecial i2, 3))
    (kk : ∀ (q : Nat) (w : va_W) (H1 : Heap) (locs1 : List Loc), w_X10 D kA b q mm w → cn_I D A (ws ++ w) s H1 locs1 → W p l e R s m args below meth c H1 locs1 (cells + 1 + 24) (slots + 6 + 114) Q (F0 m (pc + 8) ls (.ref q :: rest))) : W p l e R s m args below meth c H locs cells slots Q (F0 m pc ls rest) := by
  refine cn_new hC hI cf_X10 hl (by omega) (by omega) d1 (fun q H1 hI => ?_)
  refine lv_dup hC.1.1 hC.1.2.1 d2 rfl ?_
  refine lv_aload_n hC.1.1 hC.1.2.1 d3 rfl h1 ?_
  refine cn_ret (post := w_X10 D kA b q mm) hI (cn_runI (As := [.ref mm]) (rest := .ref q :: rest) hC hI (c_X10_init q mm H1.size (hfin q)) mc_X10_init hl2 ⟨rfl, rfl⟩ hR rfl hsz rfl (by simp only [List.map_cons, List.sum_cons]; exact Nat.le_trans (Nat.add_le_add_left hW 1) (Nat.le_refl 8)) d4 hcs) (fun w H1 locs1 hp hI => ?_)
  exact kk q w H1 locs1 hp hI
end CX
def sL (kA : Nat → ClassId) (k : Nat) (sa na : Nat → Nat) : va_W := (List.range k).flatMap (fun i => [(sa i, .inr (8, [.ref (na i), .int 0, .int 0])), (na i, .inl (kA 15, 40, .inr (.inl (fun _ => 0))))])
theorem sL_succ (kA : Nat → ClassId) (k q r : Nat) (sa na : Nat → Nat) : sL kA (k + 1) (fun i => if i = k then q else sa i) (fun i => if i = k then r else na i) = sL kA k sa na ++ [(q, .inr (8, [.ref r, .int 0, .int 0])), (r, .inl (kA 15, 40, .inr (.inl (fun _ => 0))))] := by
  unfold sL
  rw [List.range_succ, List.flatMap_append]
  congr 1
  · rw [List.flatMap_def, List.flatMap_def]
    congr 1
    apply List.map_congr_left
    intro i hi
    have := List.mem_range.mp hi
    dsimp only
    rw [if_neg (by omega), if_neg (by omega)]
  · simp
theorem x_loop {p : Program} {l : Launch} {e : Env} {s : State} {m : MethodId} {args : Array Value} {below : List Frame} {meth : Method} {c : Code} {Q : State → Prop} {D : va_G} {kA : Nat → ClassId} {A : Nat → Prop} {h0 mm qs t1 t2 t3 : Nat} (hC : cn_C D kA p m c cX11_init 3 s args RX11) {P : va_W} (K : ∀ (sa na : Nat → Nat) (g : Nat → Option Nat) (H : Heap) (locs : List Loc) (ls : Array Slot), (∀ j, j < 4 → g j = some (sa j)) → cn_I D A ((h0, .inr (11, [.ref t1, .ref t2, .ref t3, .int 0, .ref qs, .null, .null, .null])) :: (P ++ (qs, .inl (kA 19, 4, .inr (.inr (.inr (.inr g))))) :: sL kA 4 sa na)) s H locs → lv_has ls 3 [(0, .ref h0)] → W p l e { frames := 5, cells := 95, slots := 681, locals := 92 } s m args below meth c H locs 91 542 Q (F0 m 83 ls [])) :
    ∀ (n k : Nat), k + n = 4 → ∀ (sa na : Nat → Nat) (g : Nat → Option Nat) (H : Heap) (locs : List Loc) (ls : Array Slot), (∀ j, j < k → g j = some (sa j)) → cn_I D A ((h0, .inr (11, [.ref t1, .ref t2, .ref t3, .int 0, .ref qs, .null, .null, .null])) :: (P ++ (qs, .inl (kA 19, 4, .inr (.inr (.inr (.inr g))))) :: sL kA k sa na)) s H locs → lv_has ls 3 [(2, .int (nI k)), (0, .ref h0), (1, .ref mm)] → W p l e { frames := 5, cells := 95, slots := 681, locals := 92 } s m args below meth c H locs (83 + 2 * k) (370 + 43 * k) Q (F0 m 59 ls []) := by
  have hx := hC.1.1
  have hb := hC.1.2.1
  intro n
  induction n with
  | zero =>
    intro k hk sa na g H locs ls hf hI hl
    have ek : k = 4 := by omega
    subst ek
    refine lv_iload_n hx hb dX11_init_59 rfl (lv_at hl 0 rfl) ?_
    refine lv_iconst (v := (4 : Int32)) hx hb dX11_init_60 (by decide) ?_
    exact lv_icmp_ge (tgt := 83) hx hb dX11_init_61 (by decide) (fun _ => K sa na g H locs ls hf hI (lv_sub hl [1] rfl)) (fun hc => absurd (by decide) hc)
  | succ n ih =>
    intro k hk sa na g H locs ls hf hI hl
    refine lv_iload_n hx hb dX11_init_59 rfl (lv_at hl 0 rfl) ?_
    refine lv_iconst (v := (4 : Int32)) hx hb dX11_init_60 (by decide) ?_
    refine lv_icmp_ge (tgt := 83) hx hb dX11_init_61 (by decide) (fun hc => absurd hc (nI_ge (a := k) (b := 4) (by omega) (by decide))) (fun _ => ?_)
    refine lv_aload_n hx hb dX11_init_64 rfl (lv_at hl 1 rfl) ?_
    refine cn_get (fs := [.ref t1, .ref t2, .ref t3, .int 0, .ref qs, .null, .null, .null]) hC hI ff_X11_4 q_209 rfl dX11_init_65 ?_
    refine lv_iload_n hx hb dX11_init_68 rfl (lv_at hl 0 rfl) ?_
    refine cn_new0 (fs := [.null, .int 0, .int 0]) (post := fun q w => w_X8 kA q w) hC hI cf_X8 q_158 (fun q sz => c_X8_init q sz) mc_X8_init (List.mem_of_getElem? (i := 13) rfl) ⟨rfl, rfl⟩ ⟨Nat.le_of_ble_eq_true rfl, Nat.le_of_ble_eq_true rfl⟩ hl.1 (Nat.le_of_ble_eq_true rfl) ⟨by show 83 + 2 * k + 1 + 1 ≤ 95; omega, by show 370 + 43 * k + 3 + 40 ≤ 681; omega⟩ dX11_init_69 dX11_init_72 dX11_init_73 (fun q w H locs hp hI => ?_)
    obtain ⟨r, hp⟩ := hp
    subst hp
    have hI : cn_I D A ((h0, .inr (11, [.ref t1, .ref t2, .ref t3, .int 0, .ref qs, .null, .null, .null])) :: (P ++ (qs, .inl (kA 19, 4, .inr (.inr (.inr (.inr g))))) :: (sL kA k sa na ++ [(q, .inr (8, [.ref r, .int 0, .int 0])), (r, .inl (kA 15, 40, .inr (.inl (fun _ => 0))))]))) s H locs := by
      have h9 := hI
      rw [List.cons_append, List.append_assoc, List.cons_append] at h9
      exact h9
    obtain ⟨ix, hix⟩ := List.getElem?_of_mem (show (q, (.inr (8, [.ref r, .int 0, .int 0]) : va_E)) ∈ ((h0, .inr (11, [.ref t1, .ref t2, .ref t3, .int 0, .ref qs, .null, .null, .null])) :: (P ++ (qs, .inl (kA 19, 4, .inr (.inr (.inr (.inr g))))) :: (sL kA k sa na ++ [(q, .inr (8, [.ref r, .int 0, .int 0])), (r, .inl (kA 15, 40, .inr (.inl (fun _ => 0))))])) : va_W) by simp)
    obtain ⟨hP, hD, hS, hA⟩ := hI
    refine va_astq (r := (RX8, TX8, 3)) hx hb hC.2.1 hP hD hS (P.length + 1) 6 ix 8 (get_mid P _ _) rfl hix rfl (vp_in_nI (show k < 4 by omega) (by decide)) dX11_init_76 (fun H locs hP hD hS => ?_)
    rw [nI_clamp (by omega), List.set_cons_succ, set_mid] at hP hD
    have hI : cn_I D A ((h0, .inr (11, [.ref t1, .ref t2, .ref t3, .int 0, .ref qs, .null, .null, .null])) :: (P ++ (qs, .inl (kA 19, 4, .inr (.inr (.inr (.inr (va_up g k (some q))))))) :: (sL kA k sa na ++ [(q, .inr (8, [.ref r, .int 0, .int 0])), (r, .inl (kA 15, 40, .inr (.inl (fun _ => 0))))]))) s H locs := ⟨hP, hD, hS, hA⟩
    rw [← sL_succ] at hI
    refine lv_iinc (v := nI (k + 1)) (lv' := [(2, .int (nI (k + 1))), (0, .ref h0), (1, .ref mm)]) hx hb dX11_init_77 hl (k := 0) rfl (nI_add k 1) (by decide) rfl (fun ls hl => ?_)
    refine lv_goto (tgt := 59) hx hb dX11_init_80 (by decide) ?_
    refine W.cs (cells' := 83 + 2 * (k + 1)) (slots' := 370 + 43 * (k + 1)) (by omega) (by omega) ?_
    refine ih (k + 1) (by omega) (fun i => if i = k then q else sa i) (fun i => if i = k then r else na i) _ H locs ls (fun j hj => ?_) hI hl
    by_cases z : j = k
    · subst z; simp [va_up]
    · rw [if_neg z]
      simp only [va_up, if_neg z]
      exact hf j (by omega)
-- the cells behind it
def fm_isr (i k : Nat) : Bool := if fm_ct i < 13 then decide (k < (fm_fk (fm_ct i)).length ∧ ¬ (fm_fk (fm_ct i)).getD k 9 = 0 ∧ ¬ (fm_fk (fm_ct i)).getD k 9 = 1) else decide (15 < fm_ct i ∧ k < fm_ln i)
theorem cAt.to {D : va_G} {kA : Nat → ClassId} {a a' : Nat → Nat} {i : Nat} {H : Heap} (h : cAt D kA a i H) (h0 : a i = a' i) (hr : ∀ k, fm_isr i k = true → a (fm_rf i k) = a' (fm_rf i k)) : cAt D kA a' i H := by
  unfold cAt at h ⊢
  rw [← h0]
  by_cases h13 : fm_ct i < 13
  · rw [fm_obj rfl h13] at h ⊢
    have e1 : fm_fs (gA D kA a) (s0.1 i) (s0.2 i) i (fm_ct i) = fm_fs (gA D kA a') (s0.1 i) (s0.2 i) i (fm_ct i) := by
      unfold fm_fs
      apply List.map_congr_left
      intro k hk
      have hk := List.mem_range.mp hk
      unfold fm_fv
      by_cases z0 : (fm_fk (fm_ct i)).getD k 9 = 0
      · rw [if_pos z0, if_pos z0]
      · by_cases z1 : (fm_fk (fm_ct i)).getD k 9 = 1
        · rw [if_neg z0, if_neg z0, if_pos z1, if_pos z1]
        · rw [if_neg z0, if_neg z0, if_neg z1, if_neg z1]
          have : a (fm_rf i k) = a' (fm_rf i k) := hr k (by unfold fm_isr; rw [if_pos h13]; exact decide_eq_true ⟨hk, z0, z1⟩)
          show Value.ref (a (fm_rf i k)) = Value.ref (a' (fm_rf i k))
          rw [this]
    rw [← e1]
    exact h
  · by_cases h15 : fm_ct i < 15
    · rw [fm_arI rfl h13 h15] at h ⊢
      exact h
    · by_cases h16 : fm_ct i = 15
      · rw [fm_arL h16] at h ⊢
        exact h
      · rw [fm_arR rfl (by omega)] at h ⊢
        exact at_q h (fun j hj => by
          have : a (fm_rf i j) = a' (fm_rf i j) := hr j (by unfold fm_isr; rw [if_neg h13]; exact decide_eq_true ⟨by omega, hj⟩)
          show some (a (fm_rf i j)) = some (a' (fm_rf i j))
          rw [this])
theorem isr_20 : ∀ i, i < 110 → (fm_fk (fm_ct i)).length ≤ 20 ∧ (15 < fm_ct i → fm_ln i ≤ 20) := by decide +kernel
theorem isr_lt {i k : Nat} (hi : i < 110) (h : fm_isr i k = true) : k < 20 := by
  obtain ⟨h1, h2⟩ := isr_20 i hi
  unfold fm_isr at h
  split at h
  · have := of_decide_eq_true h; omega
  · have := of_decide_eq_true h
    have := h2 this.1
    omega
theorem cl_1 : ∀ i, i < 8 → 1 ≤ i → ∀ k, k < 20 → fm_isr i k = true → 1 ≤ fm_rf i k ∧ fm_rf i k < 8 := by decide +kernel
theorem cl_8 : ∀ i, i < 33 → 8 ≤ i → ∀ k, k < 20 → fm_isr i k = true → (8 ≤ fm_rf i k ∧ fm_rf i k < 33) ∨ fm_rf i k = 1 := by decide +kernel
theorem cl_33 : ∀ i, i < 58 → 33 ≤ i → ∀ k, k < 20 → fm_isr i k = true → (33 ≤ fm_rf i k ∧ fm_rf i k < 58) ∨ fm_rf i k = 1 := by decide +kernel
theorem cl_58 : ∀ i, i < 83 → 58 ≤ i → ∀ k, k < 20 → fm_isr i k = true → (58 ≤ fm_rf i k ∧ fm_rf i k < 83) ∨ fm_rf i k = 1 := by decide +kernel
theorem va_P.l {D : va_G} {cl : List vw_C} {w1 w2 : va_W} {H : Heap} (h : va_P D cl (w1 ++ w2) H) : va_P D cl w1 H := fun k q hq => h k q (by rw [List.getElem?_append_left (List.getElem?_eq_some_iff.mp hq).1]; exact hq)
theorem va_P.r {D : va_G} {cl : List vw_C} {w1 w2 : va_W} {H : Heap} (h : va_P D cl (w1 ++ w2) H) : va_P D cl w2 H := fun k q hq => h (w1.length + k) q (by rw [List.getElem?_append_right (by omega), Nat.add_sub_cancel_left]; exact hq)
def w_X11 (D : va_G) (kA : Nat → ClassId) (h0 : Nat) (w : va_W) : Prop := ∃ a : Nat → Nat, a 0 = h0 ∧ cn_P D kA 0 96 a w
def xA (h0 qs qt qb q7 q6 : Nat) (sa na a0 a1 a2 a3 : Nat → Nat) : Nat → Nat := fun j => if j = 0 then h0 else if j < 8 then a0 j else if j < 33 then a1 j else if j < 58 then a2 j else if j < 83 then a3 j else [qs, sa 0, na 0, sa 1, na 1, sa 2, na 2, sa 3, na 3, qt, qb, q7, q6].getD (j - 83) 0
theorem x_fin {D : va_G} {kA : Nat → ClassId} {h0 mm t1 t2 t3 qs qt qb q7 q6 : Nat} {g : Nat → Option Nat} {sa na : Nat → Nat} {wm w1 w2 w3 : va_W} (hm : w_mn D kA mm wm) (h1 : w_X10 D kA 8 t1 mm w1) (h2 : w_X10 D kA 33 t2 mm w2) (h3 : w_X10 D kA 58 t3 mm w3) (hg : ∀ j, j < 4 → g j = some (sa j)) :
    w_X11 D kA h0 ((h0, .inr (11, [.ref t1, .ref t2, .ref t3, .int 0, .ref qs, .ref qt, .ref q7, .ref q6])) :: ((((wm ++ w1) ++ w2) ++ w3) ++ (qs, .inl (kA 19, 4, .inr (.inr (.inr (.inr g))))) :: (sL kA 4 sa na ++ [(qt, .inr (9, [.ref qb, .int 0, .int 0, .int 0, .int 0, .int 0])), (qb, .inl (kA 14, 120, .inl (fun _ => 0))), (q7, .inl (kA 14, 7, .inl (fun _ => 0))), (q6, .inl (kA 14, 6, .inl (fun _ => 0)))]))) := by
  obtain ⟨a0, e0, m1, m2⟩ := hm
  obtain ⟨a1, e1, f1, x1, y1⟩ := h1
  obtain ⟨a2, e2, f2, x2, y2⟩ := h2
  obtain ⟨a3, e3, f3, x3, y3⟩ := h3
  subst e0; subst e1; subst e2; subst e3
  refine ⟨xA h0 qs qt qb q7 q6 sa na a0 a1 a2 a3, rfl, ?_, fun H hP i i1 i2 => ?_⟩
  · rw [List.map_cons, List.map_append, List.map_append, List.map_append, List.map_append, m1, x1, x2, x3]
    rfl
  · have hp0 : va_P D vwCl (((wm ++ w1) ++ w2) ++ w3 ++ (qs, .inl (kA 19, 4, .inr (.inr (.inr (.inr g))))) :: (sL kA 4 sa na ++ [(qt, .inr (9, [.ref qb, .int 0, .int 0, .int 0, .int 0, .int 0])), (qb, .inl (kA 14, 120, .inl (fun _ => 0))), (q7, .inl (kA 14, 7, .inl (fun _ => 0))), (q6, .inl (kA 14, 6, .inl (fun _ => 0)))])) H := fun k q hq => hP (k + 1) q hq
    have ht := va_P.r hp0
    have hl := va_P.l hp0
    have d1 : ∀ j, 1 ≤ j → j < 8 → xA h0 qs qt qb q7 q6 sa na a0 a1 a2 a3 j = a0 j := fun j j1 j2 => by unfold xA; rw [if_neg (by omega), if_pos j2]
    have d8 : ∀ j, 8 ≤ j → j < 33 → xA h0 qs qt qb q7 q6 sa na a0 a1 a2 a3 j = a1 j := fun j j1 j2 => by unfold xA; rw [if_neg (by omega), if_neg (by omega), if_pos j2]
    have d33 : ∀ j, 33 ≤ j → j < 58 → xA h0 qs qt qb q7 q6 sa na a0 a1 a2 a3 j = a2 j := fun j j1 j2 => by unfold xA; rw [if_neg (by omega), if_neg (by omega), if_neg (by omega), if_pos j2]
    have d58 : ∀ j, 58 ≤ j → j < 83 → xA h0 qs qt qb q7 q6 sa na a0 a1 a2 a3 j = a3 j := fun j j1 j2 => by unfold xA; rw [if_neg (by omega), if_neg (by omega), if_neg (by omega), if_neg (by omega), if_pos j2]
    by_cases z0 : i = 0
    · subst z0
      exact hP 0 _ rfl
    · by_cases z8 : i < 8
      · refine (m2 H hl.l.l.l i (by omega) (by omega)).to (d1 i (by omega) z8).symm (fun k hk => ?_)
        have := cl_1 i z8 (by omega) k (isr_lt (by omega) hk) hk
        rw [d1 _ this.1 this.2]
      · by_cases z33 : i < 33
        · refine (y1 H hl.l.l.r i (by omega) (by omega)).to (d8 i (by omega) z33).symm (fun k hk => ?_)
          rcases cl_8 i z33 (by omega) k (isr_lt (by omega) hk) hk with q | q
          · rw [d8 _ q.1 q.2]
          · rw [q, d1 1 (by omega) (by omega)]; exact f1
        · by_cases z58 : i < 58
          · refine (y2 H hl.l.r i (by omega) (by omega)).to (d33 i (by omega) z58).symm (fun k hk => ?_)
            rcases cl_33 i z58 (by omega) k (isr_lt (by omega) hk) hk with q | q
            · rw [d33 _ q.1 q.2]
            · rw [q, d1 1 (by omega) (by omega)]; exact f2
          · by_cases z83 : i < 83
            · refine (y3 H hl.r i (by omega) (by omega)).to (d58 i (by omega) z83).symm (fun k hk => ?_)
              rcases cl_58 i z83 (by omega) k (isr_lt (by omega) hk) hk with q | q
              · rw [d58 _ q.1 q.2]
              · rw [q, d1 1 (by omega) (by omega)]; exact f3
            · have h : i = 83 ∨ i = 84 ∨ i = 85 ∨ i = 86 ∨ i = 87 ∨ i = 88 ∨ i = 89 ∨ i = 90 ∨ i = 91 ∨ i = 92 ∨ i = 93 ∨ i = 94 ∨ i = 95 := by omega
              rcases h with rfl | rfl | rfl | rfl | rfl | rfl | rfl | rfl | rfl | rfl | rfl | rfl | rfl
              · refine at_q (ht 0 (qs, .inl (kA 19, 4, .inr (.inr (.inr (.inr g))))) rfl) (fun j hj => ?_)
                have hj : j < 4 := hj
                rw [hg j hj]
                have h : j = 0 ∨ j = 1 ∨ j = 2 ∨ j = 3 := by omega
                rcases h with rfl | rfl | rfl | rfl <;> rfl
              · exact ht 1 _ rfl
              · exact ht 2 _ rfl
              · exact ht 3 _ rfl
              · exact ht 4 _ rfl
              · exact ht 5 _ rfl
              · exact ht 6 _ rfl
              · exact ht 7 _ rfl
              · exact ht 8 _ rfl
              · exact ht 9 _ rfl
              · exact ht 10 _ rfl
              · exact ht 11 _ rfl
              · exact ht 12 _ rfl
