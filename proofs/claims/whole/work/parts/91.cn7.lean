set_option maxHeartbeats 4000000 in
theorem c_X11_init {l : Launch} {D : va_G} {kA : Nat → ClassId} (h0 sz : Nat) : Met l yX11_init (fm_w yX11_init cX11_init 3 none) { frames := 5, cells := 95, slots := 681, locals := 92 } (va_Pc [.ref h0] (cn_st D kA [(h0, .inr (11, [.null, .null, .null, .int 0, .null, .null, .null, .null]))] sz)) (cn_Q D [(h0, .inr (11, [.null, .null, .null, .int 0, .null, .null, .null, .null]))] sz (w_X11 D kA h0)) 95 681 (va_A [(h0, .inr (11, [.null, .null, .null, .int 0, .null, .null, .null, .null]))] sz) := by
  refine cn_mth (own := RX11) rfl (by decide +kernel) (Nat.le_of_ble_eq_true rfl) ?_
  intro p e s m below meth c ls hC hr hlk hnm hsz hI hl
  subst hsz
  have hx := hC.1.1
  have hb := hC.1.2.1
  have hl : lv_has ls 3 [(0, .ref h0)] := hl
  refine lv_aload_n hx hb dX11_init_0 rfl (lv_at hl 0 rfl) ?_
  refine cn_obj hC hl.1 q_26 ⟨Nat.le_of_ble_eq_true rfl, Nat.le_of_ble_eq_true rfl⟩ dX11_init_1 ?_
  refine cn_man hC hI q_29 ⟨Nat.le_of_ble_eq_true rfl, Nat.le_of_ble_eq_true rfl⟩ ⟨Nat.le_of_ble_eq_true rfl, Nat.le_of_ble_eq_true rfl⟩ hl.1 dX11_init_4 (fun mm wm H locs hm hI => ?_)
  refine lv_astore_n (lv' := [(1, .ref mm), (0, .ref h0)]) hx hb dX11_init_7 rfl hl (by decide) rfl (fun ls hl => ?_)
  refine lv_aload_n hx hb dX11_init_8 rfl (lv_at hl 1 rfl) ?_
  refine cn_newT (lv := []) hC hI q_75 q_77 (fun _ _ _ _ _ _ _ _ hf hg => t_fin8 hf hg) ⟨Nat.le_of_ble_eq_true rfl, Nat.le_of_ble_eq_true rfl⟩ hl.1 (lv_at hl 0 rfl) (Nat.le_of_ble_eq_true rfl) ⟨Nat.le_of_ble_eq_true rfl, Nat.le_of_ble_eq_true rfl⟩ dX11_init_9 dX11_init_12 dX11_init_13 dX11_init_14 (fun t1 w1 H locs h1 hI => ?_)
  refine cn_put (fs := [.null, .null, .null, .int 0, .null, .null, .null, .null]) hC hI ff_X11_0 hnm rfl rfl q_205 (Nat.le_of_ble_eq_true rfl) dX11_init_17 (fun H locs hI => ?_)
  refine lv_aload_n hx hb dX11_init_20 rfl (lv_at hl 1 rfl) ?_
  refine cn_newT (lv := []) hC hI q_75 q_77 (fun _ _ _ _ _ _ _ _ hf hg => t_fin33 hf hg) ⟨Nat.le_of_ble_eq_true rfl, Nat.le_of_ble_eq_true rfl⟩ hl.1 (lv_at hl 0 rfl) (Nat.le_of_ble_eq_true rfl) ⟨Nat.le_of_ble_eq_true rfl, Nat.le_of_ble_eq_true rfl⟩ dX11_init_21 dX11_init_24 dX11_init_25 dX11_init_26 (fun t2 w2 H locs h2 hI => ?_)
  refine cn_put (fs := [.ref t1, .null, .null, .int 0, .null, .null, .null, .null]) hC hI ff_X11_1 hnm rfl rfl q_206 (Nat.le_of_ble_eq_true rfl) dX11_init_29 (fun H locs hI => ?_)
  refine lv_aload_n hx hb dX11_init_32 rfl (lv_at hl 1 rfl) ?_
  refine cn_newT (lv := []) hC hI q_75 q_77 (fun _ _ _ _ _ _ _ _ hf hg => t_fin58 hf hg) ⟨Nat.le_of_ble_eq_true rfl, Nat.le_of_ble_eq_true rfl⟩ hl.1 (lv_at hl 0 rfl) (Nat.le_of_ble_eq_true rfl) ⟨Nat.le_of_ble_eq_true rfl, Nat.le_of_ble_eq_true rfl⟩ dX11_init_33 dX11_init_36 dX11_init_37 dX11_init_38 (fun t3 w3 H locs h3 hI => ?_)
  refine cn_put (fs := [.ref t1, .ref t2, .null, .int 0, .null, .null, .null, .null]) hC hI ff_X11_2 hnm rfl rfl q_207 (Nat.le_of_ble_eq_true rfl) dX11_init_41 (fun H locs hI => ?_)
  refine lv_aload_n hx hb dX11_init_44 rfl (lv_at hl 1 rfl) ?_
  refine lv_iconst (v := (0 : Int32)) hx hb dX11_init_45 (by decide) ?_
  obtain ⟨hP, hD, hS, hA⟩ := hI
  obtain ⟨⟨g1, g2, g3, -, -⟩, g6, g7, g8, g9⟩ := fp_X11_3
  refine va_put hx hb hC.1.2.2.2.2 g2 tyX11 g6 g7 hC.1.2.2.2.1 hC.2.1 hP hD hS 0 rfl g1 3 g3 (hC.1.2.2.2.2 _ q_208) (fun _ h => h) g8 g9 rfl rfl (Nat.le_of_ble_eq_true rfl) dX11_init_46 (fun H locs hP hD hS => ?_)
  have hI : cn_I D (va_A [(h0, .inr (11, [.null, .null, .null, .int 0, .null, .null, .null, .null]))] s.heap.size) ((h0, .inr (11, [.ref t1, .ref t2, .ref t3, .int 0, .null, .null, .null, .null])) :: (((wm ++ w1) ++ w2) ++ w3)) s H locs := ⟨hP, hD, hS, hA⟩
  refine lv_aload_n hx hb dX11_init_49 rfl (lv_at hl 1 rfl) ?_
  refine lv_iconst (v := (4 : Int32)) hx hb dX11_init_50 (by decide) ?_
  refine cn_newq (N := 4) (t0 := 6) (k0 := 19) hC hI q_158 (List.mem_of_getElem? (i := 3) rfl) rfl (by decide) (by decide) (by decide) (Nat.le_of_ble_eq_true rfl) (Nat.le_of_ble_eq_true rfl) dX11_init_51 (fun qs H hI => ?_)
  refine cn_put (fs := [.ref t1, .ref t2, .ref t3, .int 0, .null, .null, .null, .null]) hC hI ff_X11_4 hnm rfl rfl q_209 (Nat.le_of_ble_eq_true rfl) dX11_init_54 (fun H locs hI => ?_)
  refine lv_iconst (v := (0 : Int32)) hx hb dX11_init_57 (by decide) ?_
  refine lv_istore_n (lv' := [(2, .int (0 : Int32)), (1, .ref mm), (0, .ref h0)]) hx hb dX11_init_58 rfl hl (by decide) rfl (fun ls hl => ?_)
  refine x_loop (P := ((wm ++ w1) ++ w2) ++ w3) hC (fun sa na g H locs ls hg hI hl => ?_) 4 0 (by decide) (fun _ => 0) (fun _ => 0) (fun _ => none) H locs ls (fun j hj => absurd hj (Nat.not_lt_zero j)) hI (lv_sub hl [0, 2, 1] rfl)
  refine lv_aload_n hx hb dX11_init_83 rfl (lv_at hl 0 rfl) ?_
  refine cn_new0 (fs := [.null, .int 0, .int 0, .int 0, .int 0, .int 0]) (post := fun q w => w_X9 kA q w) hC hI cf_X9 q_179 (fun q sz => c_X9_init q sz) mc_X9_init (List.mem_of_getElem? (i := 14) rfl) ⟨rfl, rfl⟩ ⟨Nat.le_of_ble_eq_true rfl, Nat.le_of_ble_eq_true rfl⟩ hl.1 (Nat.le_of_ble_eq_true rfl) ⟨Nat.le_of_ble_eq_true rfl, Nat.le_of_ble_eq_true rfl⟩ dX11_init_84 dX11_init_87 dX11_init_88 (fun qt w H locs hp hI => ?_)
  obtain ⟨qb, hp⟩ := hp
  subst hp
  refine cn_put (fs := [.ref t1, .ref t2, .ref t3, .int 0, .ref qs, .null, .null, .null]) hC hI ff_X11_5 hnm rfl rfl q_210 (Nat.le_of_ble_eq_true rfl) dX11_init_91 (fun H locs hI => ?_)
  refine lv_aload_n hx hb dX11_init_94 rfl (lv_at hl 0 rfl) ?_
  refine lv_bipush (v := (7 : Int32)) hx hb dX11_init_95 (by decide) ?_
  refine cn_newI (N := 7) hC hI (by decide) (by decide) (by decide) (Nat.le_of_ble_eq_true rfl) (Nat.le_of_ble_eq_true rfl) dX11_init_97 (fun q7 H hI => ?_)
  refine cn_put (fs := [.ref t1, .ref t2, .ref t3, .int 0, .ref qs, .ref qt, .null, .null]) hC hI ff_X11_6 hnm rfl rfl q_211 (Nat.le_of_ble_eq_true rfl) dX11_init_99 (fun H locs hI => ?_)
  refine lv_aload_n hx hb dX11_init_102 rfl (lv_at hl 0 rfl) ?_
  refine lv_bipush (v := (6 : Int32)) hx hb dX11_init_103 (by decide) ?_
  refine cn_newI (N := 6) hC hI (by decide) (by decide) (by decide) (Nat.le_of_ble_eq_true rfl) (Nat.le_of_ble_eq_true rfl) dX11_init_105 (fun q6 H hI => ?_)
  refine cn_put (fs := [.ref t1, .ref t2, .ref t3, .int 0, .ref qs, .ref qt, .ref q7, .null]) hC hI ff_X11_7 hnm rfl rfl q_212 (Nat.le_of_ble_eq_true rfl) dX11_init_107 (fun H locs hI => ?_)
  have hw := x_fin (h0 := h0) (qs := qs) (qt := qt) (qb := qb) (q7 := q7) (q6 := q6) (na := na) hm h1 h2 h3 hg
  have hI : cn_I D (va_A [(h0, .inr (11, [.null, .null, .null, .int 0, .null, .null, .null, .null]))] s.heap.size) ((h0, .inr (11, [.ref t1, .ref t2, .ref t3, .int 0, .ref qs, .ref qt, .ref q7, .ref q6])) :: ((((wm ++ w1) ++ w2) ++ w3) ++ (qs, .inl (kA 19, 4, .inr (.inr (.inr (.inr g))))) :: (sL kA 4 sa na ++ [(qt, .inr (9, [.ref qb, .int 0, .int 0, .int 0, .int 0, .int 0])), (qb, .inl (kA 14, 120, .inl (fun _ => 0))), (q7, .inl (kA 14, 7, .inl (fun _ => 0))), (q6, .inl (kA 14, 6, .inl (fun _ => 0)))]))) s H locs := by
    have h9 := hI
    simp only [List.append_eq, List.append_assoc, List.cons_append, List.nil_append] at h9 ⊢
    exact h9
  exact cn_vr hC hr hlk hI hw (Nat.le_refl _) (Nat.le_refl _) dX11_init_110
