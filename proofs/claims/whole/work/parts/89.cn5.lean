/-! the six kinds -/
def w_mn (D : va_G) (kA : Nat → ClassId) (qa : Nat) (w : va_W) : Prop := ∃ a : Nat → Nat, a 1 = qa ∧ cn_P D kA 1 7 a w
def cn_R (D : va_G) (kA : Nat → ClassId) (sz : Nat) : Array Value → State → Outcome → State → Prop := va_Qr (fun (_ : va_W) => True) (fun w a t => w_mn D kA a w ∧ va_P D vwCl w t.heap ∧ va_D (va_A [] sz) w) (va_A [] sz)
theorem m_fin {D : va_G} {kA : Nat → ClassId} {qa q0 q1 q2 q3 q4 q5 : Nat} : w_mn D kA qa [(qa, .inl (kA 16, 6, .inr (.inr (.inr (.inr (va_up (va_up (va_up (va_up (va_up (va_up (fun _ => none) 0 (some q0)) 1 (some q1)) 2 (some q2)) 3 (some q3)) 4 (some q4)) 5 (some q5))))))), (q0, .inr (4, [])), (q1, .inr (0, [])), (q2, .inr (1, [])), (q3, .inr (6, [])), (q4, .inr (3, [])), (q5, .inr (2, []))] := by
  refine ⟨fun j => [0, qa, q0, q1, q2, q3, q4, q5].getD j 0, rfl, rfl, fun H hP i h1 h2 => ?_⟩
  have h : i = 1 ∨ i = 2 ∨ i = 3 ∨ i = 4 ∨ i = 5 ∨ i = 6 ∨ i = 7 := by omega
  rcases h with rfl | rfl | rfl | rfl | rfl | rfl | rfl
  · refine at_q (hP 0 _ rfl) (fun j hj => ?_)
    have hj : j < 6 := hj
    have h : j = 0 ∨ j = 1 ∨ j = 2 ∨ j = 3 ∨ j = 4 ∨ j = 5 := by omega
    rcases h with rfl | rfl | rfl | rfl | rfl | rfl <;> rfl
  · exact hP 1 _ rfl
  · exact hP 2 _ rfl
  · exact hP 3 _ rfl
  · exact hP 4 _ rfl
  · exact hP 5 _ rfl
  · exact hP 6 _ rfl
theorem c_X11_allManners {l : Launch} {D : va_G} {kA : Nat → ClassId} (sz : Nat) : Met l yX11_allManners (fm_w yX11_allManners cX11_allManners 1 (some (.array (.object "WrapGifts$Man")))) { frames := 4, cells := 7, slots := 6, locals := 72 } (va_Pc [] (cn_st D kA [] sz)) (cn_R D kA sz) 7 6 (va_A [] sz) := by
  refine cn_mth (own := RX11) rfl (by decide +kernel) (Nat.le_of_ble_eq_true rfl) ?_
  intro p e s m below meth c ls hC hr hlk hnm hsz hI hl
  subst hsz
  have hx := hC.1.1
  have hb := hC.1.2.1
  have hl : lv_has ls 1 [] := hl
  refine lv_bipush (v := (6 : Int32)) hx hb dX11_allManners_0 (by decide) ?_
  refine cn_newq (N := 6) (t0 := 3) (k0 := 16) hC hI q_32 (List.mem_of_getElem? (i := 0) rfl) rfl (by decide) (by decide) (by decide) (Nat.le_of_ble_eq_true rfl) (Nat.le_of_ble_eq_true rfl) dX11_allManners_2 (fun qa H hI => ?_)
  refine lv_astore_n (lv' := [(0, .ref qa)]) hx hb dX11_allManners_5 rfl hl (by decide) rfl (fun ls hl => ?_)
  have hI : cn_I D (va_A [] s.heap.size) [(qa, .inl (kA 16, 6, .inr (.inr (.inr (.inr (fun _ => none))))))] s H _ := hI
  refine lv_aload_n hx hb dX11_allManners_6 rfl (lv_at hl 0 rfl) ?_
  refine lv_iconst (v := nI 0) hx hb dX11_allManners_7 (by decide) ?_
  refine cn_new0 (fs := []) (post := fun q w => w = [(q, .inr (4, []))]) hC hI cf_X4 q_32 (fun q sz => c_X4_init q sz _) mc_X4_init (List.mem_of_getElem? (i := 0) rfl) ⟨rfl, rfl⟩ ⟨Nat.le_of_ble_eq_true rfl, Nat.le_of_ble_eq_true rfl⟩ hl.1 (Nat.le_of_ble_eq_true rfl) ⟨Nat.le_of_ble_eq_true rfl, Nat.le_of_ble_eq_true rfl⟩ dX11_allManners_8 dX11_allManners_11 dX11_allManners_12 (fun q0 w H locs hp hI => ?_)
  subst hp
  have hI : cn_I D (va_A [] s.heap.size) [(qa, .inl (kA 16, 6, .inr (.inr (.inr (.inr (fun _ => none)))))), (q0, .inr (4, []))] s H locs := hI
  obtain ⟨hP, hD, hS, hA⟩ := hI
  refine vb_astq (E := "WrapGifts$Man") (C := RX4) hx hb hC.2.1 hP hD hS 0 3 rfl rfl (va_recv hC.2.1 hP (ci := 4) (q0 := 1) rfl rfl) (vb_asgS) (vp_in_nI (show 0 < 6 by decide) (by decide)) dX11_allManners_15 (fun H locs hP hD hS => ?_)
  rw [nI_clamp (by decide)] at hP hD
  have hI : cn_I D (va_A [] s.heap.size) [(qa, .inl (kA 16, 6, .inr (.inr (.inr (.inr (va_up (fun _ => none) 0 (some q0))))))), (q0, .inr (4, []))] s H locs := ⟨hP, hD, hS, hA⟩
  refine lv_aload_n hx hb dX11_allManners_16 rfl (lv_at hl 0 rfl) ?_
  refine lv_iconst (v := nI 1) hx hb dX11_allManners_17 (by decide) ?_
  refine cn_new0 (fs := []) (post := fun q w => w = [(q, .inr (0, []))]) hC hI cf_X0 q_40 (fun q sz => c_X0_init q sz _) mc_X0_init (List.mem_of_getElem? (i := 1) rfl) ⟨rfl, rfl⟩ ⟨Nat.le_of_ble_eq_true rfl, Nat.le_of_ble_eq_true rfl⟩ hl.1 (Nat.le_of_ble_eq_true rfl) ⟨Nat.le_of_ble_eq_true rfl, Nat.le_of_ble_eq_true rfl⟩ dX11_allManners_18 dX11_allManners_21 dX11_allManners_22 (fun q1 w H locs hp hI => ?_)
  subst hp
  have hI : cn_I D (va_A [] s.heap.size) [(qa, .inl (kA 16, 6, .inr (.inr (.inr (.inr (va_up (fun _ => none) 0 (some q0))))))), (q0, .inr (4, [])), (q1, .inr (0, []))] s H locs := hI
  obtain ⟨hP, hD, hS, hA⟩ := hI
  refine vb_astq (E := "WrapGifts$Man") (C := RX0) hx hb hC.2.1 hP hD hS 0 3 rfl rfl (va_recv hC.2.1 hP (ci := 0) (q0 := 2) rfl rfl) (vb_asgC (hC.2.2.2.2 _ (List.mem_of_getElem? (i := 0) rfl))) (vp_in_nI (show 1 < 6 by decide) (by decide)) dX11_allManners_25 (fun H locs hP hD hS => ?_)
  rw [nI_clamp (by decide)] at hP hD
  have hI : cn_I D (va_A [] s.heap.size) [(qa, .inl (kA 16, 6, .inr (.inr (.inr (.inr (va_up (va_up (fun _ => none) 0 (some q0)) 1 (some q1))))))), (q0, .inr (4, [])), (q1, .inr (0, []))] s H locs := ⟨hP, hD, hS, hA⟩
  refine lv_aload_n hx hb dX11_allManners_26 rfl (lv_at hl 0 rfl) ?_
  refine lv_iconst (v := nI 2) hx hb dX11_allManners_27 (by decide) ?_
  refine cn_new0 (fs := []) (post := fun q w => w = [(q, .inr (1, []))]) hC hI cf_X1 q_47 (fun q sz => c_X1_init q sz _) mc_X1_init (List.mem_of_getElem? (i := 3) rfl) ⟨rfl, rfl⟩ ⟨Nat.le_of_ble_eq_true rfl, Nat.le_of_ble_eq_true rfl⟩ hl.1 (Nat.le_of_ble_eq_true rfl) ⟨Nat.le_of_ble_eq_true rfl, Nat.le_of_ble_eq_true rfl⟩ dX11_allManners_28 dX11_allManners_31 dX11_allManners_32 (fun q2 w H locs hp hI => ?_)
  subst hp
  have hI : cn_I D (va_A [] s.heap.size) [(qa, .inl (kA 16, 6, .inr (.inr (.inr (.inr (va_up (va_up (fun _ => none) 0 (some q0)) 1 (some q1))))))), (q0, .inr (4, [])), (q1, .inr (0, [])), (q2, .inr (1, []))] s H locs := hI
  obtain ⟨hP, hD, hS, hA⟩ := hI
  refine vb_astq (E := "WrapGifts$Man") (C := RX1) hx hb hC.2.1 hP hD hS 0 3 rfl rfl (va_recv hC.2.1 hP (ci := 1) (q0 := 3) rfl rfl) (vb_asgC (hC.2.2.2.2 _ (List.mem_of_getElem? (i := 1) rfl))) (vp_in_nI (show 2 < 6 by decide) (by decide)) dX11_allManners_35 (fun H locs hP hD hS => ?_)
  rw [nI_clamp (by decide)] at hP hD
  have hI : cn_I D (va_A [] s.heap.size) [(qa, .inl (kA 16, 6, .inr (.inr (.inr (.inr (va_up (va_up (va_up (fun _ => none) 0 (some q0)) 1 (some q1)) 2 (some q2))))))), (q0, .inr (4, [])), (q1, .inr (0, [])), (q2, .inr (1, []))] s H locs := ⟨hP, hD, hS, hA⟩
  refine lv_aload_n hx hb dX11_allManners_36 rfl (lv_at hl 0 rfl) ?_
  refine lv_iconst (v := nI 3) hx hb dX11_allManners_37 (by decide) ?_
  refine cn_new0 (fs := []) (post := fun q w => w = [(q, .inr (6, []))]) hC hI cf_X6 q_54 (fun q sz => c_X6_init q sz _) mc_X6_init (List.mem_of_getElem? (i := 5) rfl) ⟨rfl, rfl⟩ ⟨Nat.le_of_ble_eq_true rfl, Nat.le_of_ble_eq_true rfl⟩ hl.1 (Nat.le_of_ble_eq_true rfl) ⟨Nat.le_of_ble_eq_true rfl, Nat.le_of_ble_eq_true rfl⟩ dX11_allManners_38 dX11_allManners_41 dX11_allManners_42 (fun q3 w H locs hp hI => ?_)
  subst hp
  have hI : cn_I D (va_A [] s.heap.size) [(qa, .inl (kA 16, 6, .inr (.inr (.inr (.inr (va_up (va_up (va_up (fun _ => none) 0 (some q0)) 1 (some q1)) 2 (some q2))))))), (q0, .inr (4, [])), (q1, .inr (0, [])), (q2, .inr (1, [])), (q3, .inr (6, []))] s H locs := hI
  obtain ⟨hP, hD, hS, hA⟩ := hI
  refine vb_astq (E := "WrapGifts$Man") (C := RX6) hx hb hC.2.1 hP hD hS 0 3 rfl rfl (va_recv hC.2.1 hP (ci := 6) (q0 := 4) rfl rfl) (vb_asgC (hC.2.2.2.2 _ (List.mem_of_getElem? (i := 2) rfl))) (vp_in_nI (show 3 < 6 by decide) (by decide)) dX11_allManners_45 (fun H locs hP hD hS => ?_)
  rw [nI_clamp (by decide)] at hP hD
  have hI : cn_I D (va_A [] s.heap.size) [(qa, .inl (kA 16, 6, .inr (.inr (.inr (.inr (va_up (va_up (va_up (va_up (fun _ => none) 0 (some q0)) 1 (some q1)) 2 (some q2)) 3 (some q3))))))), (q0, .inr (4, [])), (q1, .inr (0, [])), (q2, .inr (1, [])), (q3, .inr (6, []))] s H locs := ⟨hP, hD, hS, hA⟩
  refine lv_aload_n hx hb dX11_allManners_46 rfl (lv_at hl 0 rfl) ?_
  refine lv_iconst (v := nI 4) hx hb dX11_allManners_47 (by decide) ?_
  refine cn_new0 (fs := []) (post := fun q w => w = [(q, .inr (3, []))]) hC hI cf_X3 q_61 (fun q sz => c_X3_init q sz _) mc_X3_init (List.mem_of_getElem? (i := 7) rfl) ⟨rfl, rfl⟩ ⟨Nat.le_of_ble_eq_true rfl, Nat.le_of_ble_eq_true rfl⟩ hl.1 (Nat.le_of_ble_eq_true rfl) ⟨Nat.le_of_ble_eq_true rfl, Nat.le_of_ble_eq_true rfl⟩ dX11_allManners_48 dX11_allManners_51 dX11_allManners_52 (fun q4 w H locs hp hI => ?_)
  subst hp
  have hI : cn_I D (va_A [] s.heap.size) [(qa, .inl (kA 16, 6, .inr (.inr (.inr (.inr (va_up (va_up (va_up (va_up (fun _ => none) 0 (some q0)) 1 (some q1)) 2 (some q2)) 3 (some q3))))))), (q0, .inr (4, [])), (q1, .inr (0, [])), (q2, .inr (1, [])), (q3, .inr (6, [])), (q4, .inr (3, []))] s H locs := hI
  obtain ⟨hP, hD, hS, hA⟩ := hI
  refine vb_astq (E := "WrapGifts$Man") (C := RX3) hx hb hC.2.1 hP hD hS 0 3 rfl rfl (va_recv hC.2.1 hP (ci := 3) (q0 := 5) rfl rfl) (vb_asgC (hC.2.2.2.2 _ (List.mem_of_getElem? (i := 3) rfl))) (vp_in_nI (show 4 < 6 by decide) (by decide)) dX11_allManners_55 (fun H locs hP hD hS => ?_)
  rw [nI_clamp (by decide)] at hP hD
  have hI : cn_I D (va_A [] s.heap.size) [(qa, .inl (kA 16, 6, .inr (.inr (.inr (.inr (va_up (va_up (va_up (va_up (va_up (fun _ => none) 0 (some q0)) 1 (some q1)) 2 (some q2)) 3 (some q3)) 4 (some q4))))))), (q0, .inr (4, [])), (q1, .inr (0, [])), (q2, .inr (1, [])), (q3, .inr (6, [])), (q4, .inr (3, []))] s H locs := ⟨hP, hD, hS, hA⟩
  refine lv_aload_n hx hb dX11_allManners_56 rfl (lv_at hl 0 rfl) ?_
  refine lv_iconst (v := nI 5) hx hb dX11_allManners_57 (by decide) ?_
  refine cn_new0 (fs := []) (post := fun q w => w = [(q, .inr (2, []))]) hC hI cf_X2 q_68 (fun q sz => c_X2_init q sz _) mc_X2_init (List.mem_of_getElem? (i := 9) rfl) ⟨rfl, rfl⟩ ⟨Nat.le_of_ble_eq_true rfl, Nat.le_of_ble_eq_true rfl⟩ hl.1 (Nat.le_of_ble_eq_true rfl) ⟨Nat.le_of_ble_eq_true rfl, Nat.le_of_ble_eq_true rfl⟩ dX11_allManners_58 dX11_allManners_61 dX11_allManners_62 (fun q5 w H locs hp hI => ?_)
  subst hp
  have hI : cn_I D (va_A [] s.heap.size) [(qa, .inl (kA 16, 6, .inr (.inr (.inr (.inr (va_up (va_up (va_up (va_up (va_up (fun _ => none) 0 (some q0)) 1 (some q1)) 2 (some q2)) 3 (some q3)) 4 (some q4))))))), (q0, .inr (4, [])), (q1, .inr (0, [])), (q2, .inr (1, [])), (q3, .inr (6, [])), (q4, .inr (3, [])), (q5, .inr (2, []))] s H locs := hI
  obtain ⟨hP, hD, hS, hA⟩ := hI
  refine vb_astq (E := "WrapGifts$Man") (C := RX2) hx hb hC.2.1 hP hD hS 0 3 rfl rfl (va_recv hC.2.1 hP (ci := 2) (q0 := 6) rfl rfl) (vb_asgC (hC.2.2.2.2 _ (List.mem_of_getElem? (i := 4) rfl))) (vp_in_nI (show 5 < 6 by decide) (by decide)) dX11_allManners_65 (fun H locs hP hD hS => ?_)
  rw [nI_clamp (by decide)] at hP hD
  have hI : cn_I D (va_A [] s.heap.size) [(qa, .inl (kA 16, 6, .inr (.inr (.inr (.inr (va_up (va_up (va_up (va_up (va_up (va_up (fun _ => none) 0 (some q0)) 1 (some q1)) 2 (some q2)) 3 (some q3)) 4 (some q4)) 5 (some q5))))))), (q0, .inr (4, [])), (q1, .inr (0, [])), (q2, .inr (1, [])), (q3, .inr (6, [])), (q4, .inr (3, [])), (q5, .inr (2, []))] s H locs := ⟨hP, hD, hS, hA⟩
  refine lv_aload_n hx hb dX11_allManners_66 rfl (lv_at hl 0 rfl) ?_
  obtain ⟨hP, hD, hS, hA⟩ := hI
  exact W.aret hx hb hr (Or.inr ⟨_, rfl⟩) (Or.inr ⟨_, rfl⟩) (fun t ht hW => ⟨⟨_, qa, rfl, trivial, m_fin, by rw [ht]; exact hP, hD⟩, hS.F ht⟩) hS.2.2 dX11_allManners_67 hlk
