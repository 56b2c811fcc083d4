/-! THE REFERENCE'S CONSTRUCTOR -/
section CM
variable {p : Program} {l : Launch} {e : Env} {R : Room} {s : State} {m : MethodId} {args : Array Value} {below : List Frame} {meth : Method} {c : Code} {H : Heap} {locs : List Loc} {cells slots : Nat} {Q : State → Prop}
variable {cc : ByteArray} {pc nL : Nat} {ls : Array Slot} {rest : List Value} {D : va_G} {kA : Nat → ClassId} {own : String} {A : Nat → Prop}
theorem cn_cst {P : va_W} {q N k : Nat} {f : Nat → Int32} {tx : List Int32} {v : Int32} (hC : cn_C D kA p m c cc nL s args own) (hI : cn_I D A (P ++ [(q, .inl (kA 13, N, .inl f))]) s H locs) (hf : ∀ j, j < k → f j = tx.getD j 0) (hk : k < N) (hN : N ≤ 100) (hv : vp_nar .char v = tx.getD k 0) (hdg : decode cc pc = .ok (.castore, 1))
    (kk : ∀ (f : Nat → Int32) (H1 : Heap) (locs1 : List Loc), (∀ j, j < k + 1 → f j = tx.getD j 0) → cn_I D A (P ++ [(q, .inl (kA 13, N, .inl f))]) s H1 locs1 → W p l e R s m args below meth c H1 locs1 cells slots Q (F0 m (pc + 1) ls rest)) : W p l e R s m args below meth c H locs cells slots Q (F0 m pc ls (.int v :: .int (nI k) :: .ref q :: rest)) := by
  obtain ⟨hP, hD, hS, hA⟩ := hI
  refine va_cast hC.1.1 hC.1.2.1 hC.2.1 hP hD hS P.length 0 (get_mid P [] _) rfl (vp_in_nI hk (by omega)) hdg (fun H1 locs1 hP hD hS => ?_)
  rw [nI_clamp (by omega), set_mid] at hP hD
  refine kk _ H1 locs1 (fun j hj => ?_) ⟨hP, hD, hS, hA⟩
  by_cases z : j = k
  · subst z; rw [pk_us]; exact hv
  · rw [pk_un z]; exact hf j (by omega)
end CM
def w_X12 (D : va_G) (kA : Nat → ClassId) (h0 : Nat) (w : va_W) : Prop := ∃ a : Nat → Nat, a 96 = h0 ∧ cn_P D kA 96 14 a w
theorem y_fin {D : va_G} {kA : Nat → ClassId} {h0 q97 q98 q99 q100 q101 q102 q103 q104 q105 q106 q107 q108 q109 : Nat} {f103 f104 f105 : Nat → Int32} (h1 : ∀ j, j < 48 → f103 j = txL.getD j 0) (h2 : ∀ j, j < 16 → f104 j = txO.getD j 0) (h3 : ∀ j, j < 32 → f105 j = txP.getD j 0) : w_X12 D kA h0 [(h0, .inr (12, [.ref q97, .ref q98, .ref q99, .int 0, .ref q100, .int 0, .ref q101, .ref q102, .int 0, .int 0, .int 0, .int 0, .long 0, .ref q103, .ref q104, .ref q105, .ref q106, .ref q107, .ref q108, .ref q109])), (q97, .inl (kA 14, 96, .inl (fun _ => 0))), (q98, .inl (kA 14, 96, .inl (fun _ => 0))), (q99, .inl (kA 14, 96, .inl (fun _ => 0))), (q100, .inl (kA 14, 7, .inl (fun _ => 0))), (q101, .inl (kA 14, 5, .inl (fun _ => 0))), (q102, .inl (kA 14, 120, .inl (fun _ => 0))), (q103, .inl (kA 13, 48, .inl f103)), (q104, .inl (kA 13, 16, .inl f104)), (q105, .inl (kA 13, 32, .inl f105)), (q106, .inl (kA 14, 4, .inl (fun _ => 0))), (q107, .inl (kA 14, 4, .inl (fun _ => 0))), (q108, .inl (kA 15, 160, .inr (.inl (fun _ => 0)))), (q109, .inl (kA 15, 40, .inr (.inl (fun _ => 0))))] := by
  refine ⟨fun j => [h0, q97, q98, q99, q100, q101, q102, q103, q104, q105, q106, q107, q108, q109].getD (j - 96) 0, rfl, rfl, fun H hP i i1 i2 => ?_⟩
  have h : i = 96 ∨ i = 97 ∨ i = 98 ∨ i = 99 ∨ i = 100 ∨ i = 101 ∨ i = 102 ∨ i = 103 ∨ i = 104 ∨ i = 105 ∨ i = 106 ∨ i = 107 ∨ i = 108 ∨ i = 109 := by omega
  rcases h with rfl | rfl | rfl | rfl | rfl | rfl | rfl | rfl | rfl | rfl | rfl | rfl | rfl | rfl
  · exact hP 0 _ rfl
  · exact hP 1 _ rfl
  · exact hP 2 _ rfl
  · exact hP 3 _ rfl
  · exact hP 4 _ rfl
  · exact hP 5 _ rfl
  · exact hP 6 _ rfl
  · exact at_i (hP 7 (q103, .inl (kA 13, 48, .inl f103)) rfl) (fun j hj => h1 j hj)
  · exact at_i (hP 8 (q104, .inl (kA 13, 16, .inl f104)) rfl) (fun j hj => h2 j hj)
  · exact at_i (hP 9 (q105, .inl (kA 13, 32, .inl f105)) rfl) (fun j hj => h3 j hj)
  · exact hP 10 _ rfl
  · exact hP 11 _ rfl
  · exact hP 12 _ rfl
  · exact hP 13 _ rfl
set_option maxHeartbeats 8000000 in
set_option maxRecDepth 100000 in
theorem c_X12_init {l : Launch} {D : va_G} {kA : Nat → ClassId} (h0 sz : Nat) : Met l yX12_init (fm_w yX12_init cX12_init 1 none) { frames := 1, cells := 13, slots := 724, locals := 12 } (va_Pc [.ref h0] (cn_st D kA [(h0, .inr (12, [.null, .null, .null, .int 0, .null, .int 0, .null, .null, .int 0, .int 0, .int 0, .int 0, .long 0, .null, .null, .null, .null, .null, .null, .null]))] sz)) (cn_Q D [(h0, .inr (12, [.null, .null, .null, .int 0, .null, .int 0, .null, .null, .int 0, .int 0, .int 0, .int 0, .long 0, .null, .null, .null, .null, .null, .null, .null]))] sz (w_X12 D kA h0)) 13 724 (va_A [(h0, .inr (12, [.null, .null, .null, .int 0, .null, .int 0, .null, .null, .int 0, .int 0, .int 0, .int 0, .long 0, .null, .null, .null, .null, .null, .null, .null]))] sz) := by
  refine cn_mth (own := RX12) rfl (by decide +kernel) (Nat.le_of_ble_eq_true rfl) ?_
  intro p e s m below meth c ls hC hr hlk hnm hsz hI hl
  subst hsz
  have hx := hC.1.1
  have hb := hC.1.2.1
  have hl : lv_has ls 1 [(0, .ref h0)] := hl
  refine lv_aload_n hx hb dX12_init_0 rfl (lv_at hl 0 rfl) ?_
  refine cn_obj hC hl.1 q_797 ⟨Nat.le_of_ble_eq_true rfl, Nat.le_of_ble_eq_true rfl⟩ dX12_init_1 ?_
  refine lv_aload_n hx hb dX12_init_4 rfl (lv_at hl 0 rfl) ?_
  refine lv_bipush (v := (96 : Int32)) hx hb dX12_init_5 (by decide) ?_
  refine cn_newI (N := 96) hC hI (by decide) (by decide) (by decide) (Nat.le_of_ble_eq_true rfl) (Nat.le_of_ble_eq_true rfl) dX12_init_7 (fun q97 H hI => ?_)
  refine cn_put (fs := [.null, .null, .null, .int 0, .null, .int 0, .null, .null, .int 0, .int 0, .int 0, .int 0, .long 0, .null, .null, .null, .null, .null, .null, .null]) hC hI ff_X12_0 hnm rfl rfl q_798 (Nat.le_of_ble_eq_true rfl) dX12_init_9 (fun H locs hI => ?_)
  refine lv_aload_n hx hb dX12_init_12 rfl (lv_at hl 0 rfl) ?_
  refine lv_bipush (v := (96 : Int32)) hx hb dX12_init_13 (by decide) ?_
  refine cn_newI (N := 96) hC hI (by decide) (by decide) (by decide) (Nat.le_of_ble_eq_true rfl) (Nat.le_of_ble_eq_true rfl) dX12_init_15 (fun q98 H hI => ?_)
  refine cn_put (fs := [.ref q97, .null, .null, .int 0, .null, .int 0, .null, .null, .int 0, .int 0, .int 0, .int 0, .long 0, .null, .null, .null, .null, .null, .null, .null]) hC hI ff_X12_1 hnm rfl rfl q_799 (Nat.le_of_ble_eq_true rfl) dX12_init_17 (fun H locs hI => ?_)
  refine lv_aload_n hx hb dX12_init_20 rfl (lv_at hl 0 rfl) ?_
  refine lv_bipush (v := (96 : Int32)) hx hb dX12_init_21 (by decide) ?_
  refine cn_newI (N := 96) hC hI (by decide) (by decide) (by decide) (Nat.le_of_ble_eq_true rfl) (Nat.le_of_ble_eq_true rfl) dX12_init_23 (fun q99 H hI => ?_)
  refine cn_put (fs := [.ref q97, .ref q98, .null, .int 0, .null, .int 0, .null, .null, .int 0, .int 0, .int 0, .int 0, .long 0, .null, .null, .null, .null, .null, .null, .null]) hC hI ff_X12_2 hnm rfl rfl q_800 (Nat.le_of_ble_eq_true rfl) dX12_init_25 (fun H locs hI => ?_)
  refine lv_aload_n hx hb dX12_init_28 rfl (lv_at hl 0 rfl) ?_
  refine lv_bipush (v := (7 : Int32)) hx hb dX12_init_29 (by decide) ?_
  refine cn_newI (N := 7) hC hI (by decide) (by decide) (by decide) (Nat.le_of_ble_eq_true rfl) (Nat.le_of_ble_eq_true rfl) dX12_init_31 (fun q100 H hI => ?_)
  refine cn_put (fs := [.ref q97, .ref q98, .ref q99, .int 0, .null, .int 0, .null, .null, .int 0, .int 0, .int 0, .int 0, .long 0, .null, .null, .null, .null, .null, .null, .null]) hC hI ff_X12_4 hnm rfl rfl q_802 (Nat.le_of_ble_eq_true rfl) dX12_init_33 (fun H locs hI => ?_)
  refine lv_aload_n hx hb dX12_init_36 rfl (lv_at hl 0 rfl) ?_
  refine lv_iconst (v := (5 : Int32)) hx hb dX12_init_37 (by decide) ?_
  refine cn_newI (N := 5) hC hI (by decide) (by decide) (by decide) (Nat.le_of_ble_eq_true rfl) (Nat.le_of_ble_eq_true rfl) dX12_init_38 (fun q101 H hI => ?_)
  refine cn_put (fs := [.ref q97, .ref q98, .ref q99, .int 0, .ref q100, .int 0, .null, .null, .int 0, .int 0, .int 0, .int 0, .long 0, .null, .null, .null, .null, .null, .null, .null]) hC hI ff_X12_6 hnm rfl rfl q_804 (Nat.le_of_ble_eq_true rfl) dX12_init_40 (fun H locs hI => ?_)
  refine lv_aload_n hx hb dX12_init_43 rfl (lv_at hl 0 rfl) ?_
  refine lv_bipush (v := (120 : Int32)) hx hb dX12_init_44 (by decide) ?_
  refine cn_newI (N := 120) hC hI (by decide) (by decide) (by decide) (Nat.le_of_ble_eq_true rfl) (Nat.le_of_ble_eq_true rfl) dX12_init_46 (fun q102 H hI => ?_)
  refine cn_put (fs := [.ref q97, .ref q98, .ref q99, .int 0, .ref q100, .int 0, .ref q101, .null, .int 0, .int 0, .int 0, .int 0, .long 0, .null, .null, .null, .null, .null, .null, .null]) hC hI ff_X12_7 hnm rfl rfl q_805 (Nat.le_of_ble_eq_true rfl) dX12_init_48 (fun H locs hI => ?_)
  refine lv_aload_n hx hb dX12_init_51 rfl (lv_at hl 0 rfl) ?_
  refine lv_bipush (v := (48 : Int32)) hx hb dX12_init_52 (by decide) ?_
  refine cn_newC (N := 48) hC hI (by decide) (by decide) (by decide) (Nat.le_of_ble_eq_true rfl) (Nat.le_of_ble_eq_true rfl) dX12_init_54 (fun q103 f H hI => ?_)
  have hf : ∀ j, j < 0 → f j = txL.getD j 0 := fun j hj => absurd hj (Nat.not_lt_zero j)
  refine lv_dup hx hb dX12_init_56 rfl ?_
  refine lv_iconst (v := nI 0) hx hb dX12_init_57 (by decide) ?_
  refine lv_bipush (v := (109 : Int32)) hx hb dX12_init_58 (by decide) ?_
  refine cn_cst (k := 0) (tx := txL) hC hI hf (by decide) (by decide) rfl dX12_init_60 (fun f H locs hf hI => ?_)
  refine lv_dup hx hb dX12_init_61 rfl ?_
  refine lv_iconst (v := nI 1) hx hb dX12_init_62 (by decide) ?_
  refine lv_bipush (v := (97 : Int32)) hx hb dX12_init_63 (by decide) ?_
  refine cn_cst (k := 1) (tx := txL) hC hI hf (by decide) (by decide) rfl dX12_init_65 (fun f H locs hf hI => ?_)
  refine lv_dup hx hb dX12_init_66 rfl ?_
  refine lv_iconst (v := nI 2) hx hb dX12_init_67 (by decide) ?_
  refine lv_bipush (v := (110 : Int32)) hx hb dX12_init_68 (by decide) ?_
  refine cn_cst (k := 2) (tx := txL) hC hI hf (by decide) (by decide) rfl dX12_init_70 (fun f H locs hf hI => ?_)
  refine lv_dup hx hb dX12_init_71 rfl ?_
  refine lv_iconst (v := nI 3) hx hb dX12_init_72 (by decide) ?_
  refine lv_bipush (v := (32 : Int32)) hx hb dX12_init_73 (by decide) ?_
  refine cn_cst (k := 3) (tx := txL) hC hI hf (by decide) (by decide) rfl dX12_init_75 (fun f H locs hf hI => ?_)
  refine lv_dup hx hb dX12_init_76 rfl ?_
  refine lv_iconst (v := nI 4) hx hb dX12_init_77 (by decide) ?_
  refine lv_bipush (v := (32 : Int32)) hx hb dX12_init_78 (by decide) ?_
  refine cn_cst (k := 4) (tx := txL) hC hI hf (by decide) (by decide) rfl dX12_init_80 (fun f H locs hf hI => ?_)
  refine lv_dup hx hb dX12_init_81 rfl ?_
  refine lv_iconst (v := nI 5) hx hb dX12_init_82 (by decide) ?_
  refine lv_bipush (v := (32 : Int32)) hx hb dX12_init_83 (by decide) ?_
  refine cn_cst (k := 5) (tx := txL) hC hI hf (by decide) (by decide) rfl dX12_init_85 (fun f H locs hf hI => ?_)
  refine lv_dup hx hb dX12_init_86 rfl ?_
  refine lv_bipush (v := nI 6) hx hb dX12_init_87 (by decide) ?_
  refine lv_bipush (v := (32 : Int32)) hx hb dX12_init_89 (by decide) ?_
  refine cn_cst (k := 6) (tx := txL) hC hI hf (by decide) (by decide) rfl dX12_init_91 (fun f H locs hf hI => ?_)
  refine lv_dup hx hb dX12_init_92 rfl ?_
  refine lv_bipush (v := nI 7) hx hb dX12_init_93 (by decide) ?_
  refine lv_bipush (v := (32 : Int32)) hx hb dX12_init_95 (by decide) ?_
  refine cn_cst (k := 7) (tx := txL) hC hI hf (by decide) (by decide) rfl dX12_init_97 (fun f H locs hf hI => ?_)
  refine lv_dup hx hb dX12_init_98 rfl ?_
  refine lv_bipush (v := nI 8) hx hb dX12_init_99 (by decide) ?_
  refine lv_bipush (v := (97 : Int32)) hx hb dX12_init_101 (by decide) ?_
  refine cn_cst (k := 8) (tx := txL) hC hI hf (by decide) (by decide) rfl dX12_init_103 (fun f H locs hf hI => ?_)
  refine lv_dup hx hb dX12_init_104 rfl ?_
  refine lv_bipush (v := nI 9) hx hb dX12_init_105 (by decide) ?_
  refine lv_bipush (v := (117 : Int32)) hx hb dX12_init_107 (by decide) ?_
  refine cn_cst (k := 9) (tx := txL) hC hI hf (by decide) (by decide) rfl dX12_init_109 (fun f H locs hf hI => ?_)
  refine lv_dup hx hb dX12_init_110 rfl ?_
  refine lv_bipush (v := nI 10) hx hb dX12_init_111 (by decide) ?_
  refine lv_bipush (v := (110 : Int32)) hx hb dX12_init_113 (by decide) ?_
  refine cn_cst (k := 10) (tx := txL) hC hI hf (by decide) (by decide) rfl dX12_init_115 (fun f H locs hf hI => ?_)
  refine lv_dup hx hb dX12_init_116 rfl ?_
  refine lv_bipush (v := nI 11) hx hb dX12_init_117 (by decide) ?_
  refine lv_bipush (v := (116 : Int32)) hx hb dX12_init_119 (by decide) ?_
  refine cn_cst (k := 11) (tx := txL) hC hI hf (by decide) (by decide) rfl dX12_init_121 (fun f H locs hf hI => ?_)
  refine lv_dup hx hb dX12_init_122 rfl ?_
  refine lv_bipush (v := nI 12) hx hb dX12_init_123 (by decide) ?_
  refine lv_bipush (v := (32 : Int32)) hx hb dX12_init_125 (by decide) ?_
  refine cn_cst (k := 12) (tx := txL) hC hI hf (by decide) (by decide) rfl dX12_init_127 (fun f H locs hf hI => ?_)
  refine lv_dup hx hb dX12_init_128 rfl ?_
  refine lv_bipush (v := nI 13) hx hb dX12_init_129 (by decide) ?_
  refine lv_bipush (v := (32 : Int32)) hx hb dX12_init_131 (by decide) ?_
  refine cn_cst (k := 13) (tx := txL) hC hI hf (by decide) (by decide) rfl dX12_init_133 (fun f H locs hf hI => ?_)
  refine lv_dup hx hb dX12_init_134 rfl ?_
  refine lv_bipush (v := nI 14) hx hb dX12_init_135 (by decide) ?_
  refine lv_bipush (v := (32 : Int32)) hx hb dX12_init_137 (by decide) ?_
  refine cn_cst (k := 14) (tx := txL) hC hI hf (by decide) (by decide) rfl dX12_init_139 (fun f H locs hf hI => ?_)
  refine lv_dup hx hb dX12_init_140 rfl ?_
  refine lv_bipush (v := nI 15) hx hb dX12_init_141 (by decide) ?_
  refine lv_bipush (v := (32 : Int32)) hx hb dX12_init_143 (by decide) ?_
  refine cn_cst (k := 15) (tx := txL) hC hI hf (by decide) (by decide) rfl dX12_init_145 (fun f H locs hf hI => ?_)
  refine lv_dup hx hb dX12_init_146 rfl ?_
  refine lv_bipush (v := nI 16) hx hb dX12_init_147 (by decide) ?_
  refine lv_bipush (v := (99 : Int32)) hx hb dX12_init_149 (by decide) ?_
  refine cn_cst (k := 16) (tx := txL) hC hI hf (by decide) (by decide) rfl dX12_init_151 (fun f H locs hf hI => ?_)
  refine lv_dup hx hb dX12_init_152 rfl ?_
  refine lv_bipush (v := nI 17) hx hb dX12_init_153 (by decide) ?_
  refine lv_bipush (v := (104 : Int32)) hx hb dX12_init_155 (by decide) ?_
  refine cn_cst (k := 17) (tx := txL) hC hI hf (by decide) (by decide) rfl dX12_init_157 (fun f H locs hf hI => ?_)
  refine lv_dup hx hb dX12_init_158 rfl ?_
  refine lv_bipush (v := nI 18) hx hb dX12_init_159 (by decide) ?_
  refine lv_bipush (v := (105 : Int32)) hx hb dX12_init_161 (by decide) ?_
  refine cn_cst (k := 18) (tx := txL) hC hI hf (by decide) (by decide) rfl dX12_init_163 (fun f H locs hf hI => ?_)
  refine lv_dup hx hb dX12_init_164 rfl ?_
  refine lv_bipush (v := nI 19) hx hb dX12_init_165 (by decide) ?_
  refine lv_bipush (v := (108 : Int32)) hx hb dX12_init_167 (by decide) ?_
  refine cn_cst (k := 19) (tx := txL) hC hI hf (by decide) (by decide) rfl dX12_init_169 (fun f H locs hf hI => ?_)
  refine lv_dup hx hb dX12_init_170 rfl ?_
  refine lv_bipush (v := nI 20) hx hb dX12_init_171 (by decide) ?_
  refine lv_bipush (v := (100 : Int32)) hx hb dX12_init_173 (by decide) ?_
  refine cn_cst (k := 20) (tx := txL) hC hI hf (by decide) (by decide) rfl dX12_init_175 (fun f H locs hf hI => ?_)
  refine lv_dup hx hb dX12_init_176 rfl ?_
  refine lv_bipush (v := nI 21) hx hb dX12_init_177 (by decide) ?_
  refine lv_bipush (v := (32 : Int32)) hx hb dX12_init_179 (by decide) ?_
  refine cn_cst (k := 21) (tx := txL) hC hI hf (by decide) (by decide) rfl dX12_init_181 (fun f H locs hf hI => ?_)
  refine lv_dup hx hb dX12_init_182 rfl ?_
  refine lv_bipush (v := nI 22) hx hb dX12_init_183 (by decide) ?_
  refine lv_bipush (v := (32 : Int32)) hx hb dX12_init_185 (by decide) ?_
  refine cn_cst (k := 22) (tx := txL) hC hI hf (by decide) (by decide) rfl dX12_init_187 (fun f H locs hf hI => ?_)
  refine lv_dup hx hb dX12_init_188 rfl ?_
  refine lv_bipush (v := nI 23) hx hb dX12_init_189 (by decide) ?_
  refine lv_bipush (v := (32 : Int32)) hx hb dX12_init_191 (by decide) ?_
  refine cn_cst (k := 23) (tx := txL) hC hI hf (by decide) (by decide) rfl dX12_init_193 (fun f H locs hf hI => ?_)
  refine lv_dup hx hb dX12_init_194 rfl ?_
  refine lv_bipush (v := nI 24) hx hb dX12_init_195 (by decide) ?_
  refine lv_bipush (v := (112 : Int32)) hx hb dX12_init_197 (by decide) ?_
  refine cn_cst (k := 24) (tx := txL) hC hI hf (by decide) (by decide) rfl dX12_init_199 (fun f H locs hf hI => ?_)
  refine lv_dup hx hb dX12_init_200 rfl ?_
  refine lv_bipush (v := nI 25) hx hb dX12_init_201 (by decide) ?_
  refine lv_bipush (v := (111 : Int32)) hx hb dX12_init_203 (by decide) ?_
  refine cn_cst (k := 25) (tx := txL) hC hI hf (by decide) (by decide) rfl dX12_init_205 (fun f H locs hf hI => ?_)
  refine lv_dup hx hb dX12_init_206 rfl ?_
  refine lv_bipush (v := nI 26) hx hb dX12_init_207 (by decide) ?_
  refine lv_bipush (v := (111 : Int32)) hx hb dX12_init_209 (by decide) ?_
  refine cn_cst (k := 26) (tx := txL) hC hI hf (by decide) (by decide) rfl dX12_init_211 (fun f H locs hf hI => ?_)
  refine lv_dup hx hb dX12_init_212 rfl ?_
  refine lv_bipush (v := nI 27) hx hb dX12_init_213 (by decide) ?_
  refine lv_bipush (v := (114 : Int32)) hx hb dX12_init_215 (by decide) ?_
  refine cn_cst (k := 27) (tx := txL) hC hI hf (by decide) (by decide) rfl dX12_init_217 (fun f H locs hf hI => ?_)
  refine lv_dup hx hb dX12_init_218 rfl ?_
  refine lv_bipush (v := nI 28) hx hb dX12_init_219 (by decide) ?_
  refine lv_bipush (v := (32 : Int32)) hx hb dX12_init_221 (by decide) ?_
  refine cn_cst (k := 28) (tx := txL) hC hI hf (by decide) (by decide) rfl dX12_init_223 (fun f H locs hf hI => ?_)
  refine lv_dup hx hb dX12_init_224 rfl ?_
  refine lv_bipush (v := nI 29) hx hb dX12_init_225 (by decide) ?_
  refine lv_bipush (v := (32 : Int32)) hx hb dX12_init_227 (by decide) ?_
  refine cn_cst (k := 29) (tx := txL) hC hI hf (by decide) (by decide) rfl dX12_init_229 (fun f H locs hf hI => ?_)
  refine lv_dup hx hb dX12_init_230 rfl ?_
  refine lv_bipush (v := nI 30) hx hb dX12_init_231 (by decide) ?_
  refine lv_bipush (v := (32 : Int32)) hx hb dX12_init_233 (by decide) ?_
  refine cn_cst (k := 30) (tx := txL) hC hI hf (by decide) (by decide) rfl dX12_init_235 (fun f H locs hf hI => ?_)
  refine lv_dup hx hb dX12_init_236 rfl ?_
  refine lv_bipush (v := nI 31) hx hb dX12_init_237 (by decide) ?_
  refine lv_bipush (v := (32 : Int32)) hx hb dX12_init_239 (by decide) ?_
  refine cn_cst (k := 31) (tx := txL) hC hI hf (by decide) (by decide) rfl dX12_init_241 (fun f H locs hf hI => ?_)
  refine lv_dup hx hb dX12_init_242 rfl ?_
  refine lv_bipush (v := nI 32) hx hb dX12_init_243 (by decide) ?_
  refine lv_bipush (v := (103 : Int32)) hx hb dX12_init_245 (by decide) ?_
  refine cn_cst (k := 32) (tx := txL) hC hI hf (by decide) (by decide) rfl dX12_init_247 (fun f H locs hf hI => ?_)
  refine lv_dup hx hb dX12_init_248 rfl ?_
  refine lv_bipush (v := nI 33) hx hb dX12_init_249 (by decide) ?_
  refine lv_bipush (v := (105 : Int32)) hx hb dX12_init_251 (by decide) ?_
  refine cn_cst (k := 33) (tx := txL) hC hI hf (by decide) (by decide) rfl dX12_init_253 (fun f H locs hf hI => ?_)
  refine lv_dup hx hb dX12_init_254 rfl ?_
  refine lv_bipush (v := nI 34) hx hb dX12_init_255 (by decide) ?_
  refine lv_bipush (v := (114 : Int32)) hx hb dX12_init_257 (by decide) ?_
  refine cn_cst (k := 34) (tx := txL) hC hI hf (by decide) (by decide) rfl dX12_init_259 (fun f H locs hf hI => ?_)
  refine lv_dup hx hb dX12_init_260 rfl ?_
  refine lv_bipush (v := nI 35) hx hb dX12_init_261 (by decide) ?_
  refine lv_bipush (v := (108 : Int32)) hx hb dX12_init_263 (by decide) ?_
  refine cn_cst (k := 35) (tx := txL) hC hI hf (by decide) (by decide) rfl dX12_init_265 (fun f H locs hf hI => ?_)
  refine lv_dup hx hb dX12_init_266 rfl ?_
  refine lv_bipush (v := nI 36) hx hb dX12_init_267 (by decide) ?_
  refine lv_bipush (v := (32 : Int32)) hx hb dX12_init_269 (by decide) ?_
  refine cn_cst (k := 36) (tx := txL) hC hI hf (by decide) (by decide) rfl dX12_init_271 (fun f H locs hf hI => ?_)
  refine lv_dup hx hb dX12_init_272 rfl ?_
  refine lv_bipush (v := nI 37) hx hb dX12_init_273 (by decide) ?_
  refine lv_bipush (v := (32 : Int32)) hx hb dX12_init_275 (by decide) ?_
  refine cn_cst (k := 37) (tx := txL) hC hI hf (by decide) (by decide) rfl dX12_init_277 (fun f H locs hf hI => ?_)
  refine lv_dup hx hb dX12_init_278 rfl ?_
  refine lv_bipush (v := nI 38) hx hb dX12_init_279 (by decide) ?_
  refine lv_bipush (v := (32 : Int32)) hx hb dX12_init_281 (by decide) ?_
  refine cn_cst (k := 38) (tx := txL) hC hI hf (by decide) (by decide) rfl dX12_init_283 (fun f H locs hf hI => ?_)
  refine lv_dup hx hb dX12_init_284 rfl ?_
  refine lv_bipush (v := nI 39) hx hb dX12_init_285 (by decide) ?_
  refine lv_bipush (v := (32 : Int32)) hx hb dX12_init_287 (by decide) ?_
  refine cn_cst (k := 39) (tx := txL) hC hI hf (by decide) (by decide) rfl dX12_init_289 (fun f H locs hf hI => ?_)
  refine lv_dup hx hb dX12_init_290 rfl ?_
  refine lv_bipush (v := nI 40) hx hb dX12_init_291 (by decide) ?_
  refine lv_bipush (v := (99 : Int32)) hx hb dX12_init_293 (by decide) ?_
  refine cn_cst (k := 40) (tx := txL) hC hI hf (by decide) (by decide) rfl dX12_init_295 (fun f H locs hf hI => ?_)
  refine lv_dup hx hb dX12_init_296 rfl ?_
  refine lv_bipush (v := nI 41) hx hb dX12_init_297 (by decide) ?_
  refine lv_bipush (v := (108 : Int32)) hx hb dX12_init_299 (by decide) ?_
  refine cn_cst (k := 41) (tx := txL) hC hI hf (by decide) (by decide) rfl dX12_init_301 (fun f H locs hf hI => ?_)
  refine lv_dup hx hb dX12_init_302 rfl ?_
  refine lv_bipush (v := nI 42) hx hb dX12_init_303 (by decide) ?_
  refine lv_bipush (v := (101 : Int32)) hx hb dX12_init_305 (by decide) ?_
  refine cn_cst (k := 42) (tx := txL) hC hI hf (by decide) (by decide) rfl dX12_init_307 (fun f H locs hf hI => ?_)
  refine lv_dup hx hb dX12_init_308 rfl ?_
  refine lv_bipush (v := nI 43) hx hb dX12_init_309 (by decide) ?_
  refine lv_bipush (v := (114 : Int32)) hx hb dX12_init_311 (by decide) ?_
  refine cn_cst (k := 43) (tx := txL) hC hI hf (by decide) (by decide) rfl dX12_init_313 (fun f H locs hf hI => ?_)
  refine lv_dup hx hb dX12_init_314 rfl ?_
  refine lv_bipush (v := nI 44) hx hb dX12_init_315 (by decide) ?_
  refine lv_bipush (v := (107 : Int32)) hx hb dX12_init_317 (by decide) ?_
  refine cn_cst (k := 44) (tx := txL) hC hI hf (by decide) (by decide) rfl dX12_init_319 (fun f H locs hf hI => ?_)
  refine lv_dup hx hb dX12_init_320 rfl ?_
  refine lv_bipush (v := nI 45) hx hb dX12_init_321 (by decide) ?_
  refine lv_bipush (v := (32 : Int32)) hx hb dX12_init_323 (by decide) ?_
  refine cn_cst (k := 45) (tx := txL) hC hI hf (by decide) (by decide) rfl dX12_init_325 (fun f H locs hf hI => ?_)
  refine lv_dup hx hb dX12_init_326 rfl ?_
  refine lv_bipush (v := nI 46) hx hb dX12_init_327 (by decide) ?_
  refine lv_bipush (v := (32 : Int32)) hx hb dX12_init_329 (by decide) ?_
  refine cn_cst (k := 46) (tx := txL) hC hI hf (by decide) (by decide) rfl dX12_init_331 (fun f H locs hf hI => ?_)
  refine lv_dup hx hb dX12_init_332 rfl ?_
  refine lv_bipush (v := nI 47) hx hb dX12_init_333 (by decide) ?_
  refine lv_bipush (v := (32 : Int32)) hx hb dX12_init_335 (by decide) ?_
  refine cn_cst (k := 47) (tx := txL) hC hI hf (by decide) (by decide) rfl dX12_init_337 (fun f H locs hf hI => ?_)
  obtain ⟨f103, hf103, hI⟩ : ∃ f9 : Nat → Int32, (∀ j, j < 48 → f9 j = txL.getD j 0) ∧ cn_I D _ (_ ++ [(q103, .inl (kA 13, 48, .inl f9))]) s H locs := ⟨f, hf, hI⟩
  refine cn_put (fs := [.ref q97, .ref q98, .ref q99, .int 0, .ref q100, .int 0, .ref q101, .ref q102, .int 0, .int 0, .int 0, .int 0, .long 0, .null, .null, .null, .null, .null, .null, .null]) hC hI ff_X12_13 hnm rfl rfl q_811 (Nat.le_of_ble_eq_true rfl) dX12_init_338 (fun H locs hI => ?_)
  refine lv_aload_n hx hb dX12_init_341 rfl (lv_at hl 0 rfl) ?_
  refine lv_bipush (v := (16 : Int32)) hx hb dX12_init_342 (by decide) ?_
  refine cn_newC (N := 16) hC hI (by decide) (by decide) (by decide) (Nat.le_of_ble_eq_true rfl) (Nat.le_of_ble_eq_true rfl) dX12_init_344 (fun q104 f H hI => ?_)
  have hf : ∀ j, j < 0 → f j = txO.getD j 0 := fun j hj => absurd hj (Nat.not_lt_zero j)
  refine lv_dup hx hb dX12_init_346 rfl ?_
  refine lv_iconst (v := nI 0) hx hb dX12_init_347 (by decide) ?_
  refine lv_bipush (v := (112 : Int32)) hx hb dX12_init_348 (by decide) ?_
  refine cn_cst (k := 0) (tx := txO) hC hI hf (by decide) (by decide) rfl dX12_init_350 (fun f H locs hf hI => ?_)
  refine lv_dup hx hb dX12_init_351 rfl ?_
  refine lv_iconst (v := nI 1) hx hb dX12_init_352 (by decide) ?_
  refine lv_bipush (v := (114 : Int32)) hx hb dX12_init_353 (by decide) ?_
  refine cn_cst (k := 1) (tx := txO) hC hI hf (by decide) (by decide) rfl dX12_init_355 (fun f H locs hf hI => ?_)
  refine lv_dup hx hb dX12_init_356 rfl ?_
  refine lv_iconst (v := nI 2) hx hb dX12_init_357 (by decide) ?_
  refine lv_bipush (v := (101 : Int32)) hx hb dX12_init_358 (by decide) ?_
  refine cn_cst (k := 2) (tx := txO) hC hI hf (by decide) (by decide) rfl dX12_init_360 (fun f H locs hf hI => ?_)
  refine lv_dup hx hb dX12_init_361 rfl ?_
  refine lv_iconst (v := nI 3) hx hb dX12_init_362 (by decide) ?_
  refine lv_bipush (v := (115 : Int32)) hx hb dX12_init_363 (by decide) ?_
  refine cn_cst (k := 3) (tx := txO) hC hI hf (by decide) (by decide) rfl dX12_init_365 (fun f H locs hf hI => ?_)
  refine lv_dup hx hb dX12_init_366 rfl ?_
  refine lv_iconst (v := nI 4) hx hb dX12_init_367 (by decide) ?_
  refine lv_bipush (v := (101 : Int32)) hx hb dX12_init_368 (by decide) ?_
  refine cn_cst (k := 4) (tx := txO) hC hI hf (by decide) (by decide) rfl dX12_init_370 (fun f H locs hf hI => ?_)
  refine lv_dup hx hb dX12_init_371 rfl ?_
  refine lv_iconst (v := nI 5) hx hb dX12_init_372 (by decide) ?_
  refine lv_bipush (v := (110 : Int32)) hx hb dX12_init_373 (by decide) ?_
  refine cn_cst (k := 5) (tx := txO) hC hI hf (by decide) (by decide) rfl dX12_init_375 (fun f H locs hf hI => ?_)
  refine lv_dup hx hb dX12_init_376 rfl ?_
  refine lv_bipush (v := nI 6) hx hb dX12_init_377 (by decide) ?_
  refine lv_bipush (v := (116 : Int32)) hx hb dX12_init_379 (by decide) ?_
  refine cn_cst (k := 6) (tx := txO) hC hI hf (by decide) (by decide) rfl dX12_init_381 (fun f H locs hf hI => ?_)
  refine lv_dup hx hb dX12_init_382 rfl ?_
  refine lv_bipush (v := nI 7) hx hb dX12_init_383 (by decide) ?_
  refine lv_bipush (v := (32 : Int32)) hx hb dX12_init_385 (by decide) ?_
  refine cn_cst (k := 7) (tx := txO) hC hI hf (by decide) (by decide) rfl dX12_init_387 (fun f H locs hf hI => ?_)
  refine lv_dup hx hb dX12_init_388 rfl ?_
  refine lv_bipush (v := nI 8) hx hb dX12_init_389 (by decide) ?_
  refine lv_bipush (v := (116 : Int32)) hx hb dX12_init_391 (by decide) ?_
  refine cn_cst (k := 8) (tx := txO) hC hI hf (by decide) (by decide) rfl dX12_init_393 (fun f H locs hf hI => ?_)
  refine lv_dup hx hb dX12_init_394 rfl ?_
  refine lv_bipush (v := nI 9) hx hb dX12_init_395 (by decide) ?_
  refine lv_bipush (v := (104 : Int32)) hx hb dX12_init_397 (by decide) ?_
  refine cn_cst (k := 9) (tx := txO) hC hI hf (by decide) (by decide) rfl dX12_init_399 (fun f H locs hf hI => ?_)
  refine lv_dup hx hb dX12_init_400 rfl ?_
  refine lv_bipush (v := nI 10) hx hb dX12_init_401 (by decide) ?_
  refine lv_bipush (v := (105 : Int32)) hx hb dX12_init_403 (by decide) ?_
  refine cn_cst (k := 10) (tx := txO) hC hI hf (by decide) (by decide) rfl dX12_init_405 (fun f H locs hf hI => ?_)
  refine lv_dup hx hb dX12_init_406 rfl ?_
  refine lv_bipush (v := nI 11) hx hb dX12_init_407 (by decide) ?_
  refine lv_bipush (v := (110 : Int32)) hx hb dX12_init_409 (by decide) ?_
  refine cn_cst (k := 11) (tx := txO) hC hI hf (by decide) (by decide) rfl dX12_init_411 (fun f H locs hf hI => ?_)
  refine lv_dup hx hb dX12_init_412 rfl ?_
  refine lv_bipush (v := nI 12) hx hb dX12_init_413 (by decide) ?_
  refine lv_bipush (v := (103 : Int32)) hx hb dX12_init_415 (by decide) ?_
  refine cn_cst (k := 12) (tx := txO) hC hI hf (by decide) (by decide) rfl dX12_init_417 (fun f H locs hf hI => ?_)
  refine lv_dup hx hb dX12_init_418 rfl ?_
  refine lv_bipush (v := nI 13) hx hb dX12_init_419 (by decide) ?_
  refine lv_bipush (v := (32 : Int32)) hx hb dX12_init_421 (by decide) ?_
  refine cn_cst (k := 13) (tx := txO) hC hI hf (by decide) (by decide) rfl dX12_init_423 (fun f H locs hf hI => ?_)
  refine lv_dup hx hb dX12_init_424 rfl ?_
  refine lv_bipush (v := nI 14) hx hb dX12_init_425 (by decide) ?_
  refine lv_bipush (v := (32 : Int32)) hx hb dX12_init_427 (by decide) ?_
  refine cn_cst (k := 14) (tx := txO) hC hI hf (by decide) (by decide) rfl dX12_init_429 (fun f H locs hf hI => ?_)
  refine lv_dup hx hb dX12_init_430 rfl ?_
  refine lv_bipush (v := nI 15) hx hb dX12_init_431 (by decide) ?_
  refine lv_bipush (v := (32 : Int32)) hx hb dX12_init_433 (by decide) ?_
  refine cn_cst (k := 15) (tx := txO) hC hI hf (by decide) (by decide) rfl dX12_init_435 (fun f H locs hf hI => ?_)
  obtain ⟨f104, hf104, hI⟩ : ∃ f9 : Nat → Int32, (∀ j, j < 16 → f9 j = txO.getD j 0) ∧ cn_I D _ (_ ++ [(q104, .inl (kA 13, 16, .inl f9))]) s H locs := ⟨f, hf, hI⟩
  refine cn_put (fs := [.ref q97, .ref q98, .ref q99, .int 0, .ref q100, .int 0, .ref q101, .ref q102, .int 0, .int 0, .int 0, .int 0, .long 0, .ref q103, .null, .null, .null, .null, .null, .null]) hC hI ff_X12_14 hnm rfl rfl q_812 (Nat.le_of_ble_eq_true rfl) dX12_init_436 (fun H locs hI => ?_)
  refine lv_aload_n hx hb dX12_init_439 rfl (lv_at hl 0 rfl) ?_
  refine lv_bipush (v := (32 : Int32)) hx hb dX12_init_440 (by decide) ?_
  refine cn_newC (N := 32) hC hI (by decide) (by decide) (by decide) (Nat.le_of_ble_eq_true rfl) (Nat.le_of_ble_eq_true rfl) dX12_init_442 (fun q105 f H hI => ?_)
  have hf : ∀ j, j < 0 → f j = txP.getD j 0 := fun j hj => absurd hj (Nat.not_lt_zero j)
  refine lv_dup hx hb dX12_init_444 rfl ?_
  refine lv_iconst (v := nI 0) hx hb dX12_init_445 (by decide) ?_
  refine lv_bipush (v := (110 : Int32)) hx hb dX12_init_446 (by decide) ?_
  refine cn_cst (k := 0) (tx := txP) hC hI hf (by decide) (by decide) rfl dX12_init_448 (fun f H locs hf hI => ?_)
  refine lv_dup hx hb dX12_init_449 rfl ?_
  refine lv_iconst (v := nI 1) hx hb dX12_init_450 (by decide) ?_
  refine lv_bipush (v := (101 : Int32)) hx hb dX12_init_451 (by decide) ?_
  refine cn_cst (k := 1) (tx := txP) hC hI hf (by decide) (by decide) rfl dX12_init_453 (fun f H locs hf hI => ?_)
  refine lv_dup hx hb dX12_init_454 rfl ?_
  refine lv_iconst (v := nI 2) hx hb dX12_init_455 (by decide) ?_
  refine lv_bipush (v := (119 : Int32)) hx hb dX12_init_456 (by decide) ?_
  refine cn_cst (k := 2) (tx := txP) hC hI hf (by decide) (by decide) rfl dX12_init_458 (fun f H locs hf hI => ?_)
  refine lv_dup hx hb dX12_init_459 rfl ?_
  refine lv_iconst (v := nI 3) hx hb dX12_init_460 (by decide) ?_
  refine lv_bipush (v := (115 : Int32)) hx hb dX12_init_461 (by decide) ?_
  refine cn_cst (k := 3) (tx := txP) hC hI hf (by decide) (by decide) rfl dX12_init_463 (fun f H locs hf hI => ?_)
  refine lv_dup hx hb dX12_init_464 rfl ?_
  refine lv_iconst (v := nI 4) hx hb dX12_init_465 (by decide) ?_
  refine lv_bipush (v := (32 : Int32)) hx hb dX12_init_466 (by decide) ?_
  refine cn_cst (k := 4) (tx := txP) hC hI hf (by decide) (by decide) rfl dX12_init_468 (fun f H locs hf hI => ?_)
  refine lv_dup hx hb dX12_init_469 rfl ?_
  refine lv_iconst (v := nI 5) hx hb dX12_init_470 (by decide) ?_
  refine lv_bipush (v := (32 : Int32)) hx hb dX12_init_471 (by decide) ?_
  refine cn_cst (k := 5) (tx := txP) hC hI hf (by decide) (by decide) rfl dX12_init_473 (fun f H locs hf hI => ?_)
  refine lv_dup hx hb dX12_init_474 rfl ?_
  refine lv_bipush (v := nI 6) hx hb dX12_init_475 (by decide) ?_
  refine lv_bipush (v := (32 : Int32)) hx hb dX12_init_477 (by decide) ?_
  refine cn_cst (k := 6) (tx := txP) hC hI hf (by decide) (by decide) rfl dX12_init_479 (fun f H locs hf hI => ?_)
  refine lv_dup hx hb dX12_init_480 rfl ?_
  refine lv_bipush (v := nI 7) hx hb dX12_init_481 (by decide) ?_
  refine lv_bipush (v := (32 : Int32)) hx hb dX12_init_483 (by decide) ?_
  refine cn_cst (k := 7) (tx := txP) hC hI hf (by decide) (by decide) rfl dX12_init_485 (fun f H locs hf hI => ?_)
  refine lv_dup hx hb dX12_init_486 rfl ?_
  refine lv_bipush (v := nI 8) hx hb dX12_init_487 (by decide) ?_
  refine lv_bipush (v := (98 : Int32)) hx hb dX12_init_489 (by decide) ?_
  refine cn_cst (k := 8) (tx := txP) hC hI hf (by decide) (by decide) rfl dX12_init_491 (fun f H locs hf hI => ?_)
  refine lv_dup hx hb dX12_init_492 rfl ?_
  refine lv_bipush (v := nI 9) hx hb dX12_init_493 (by decide) ?_
  refine lv_bipush (v := (114 : Int32)) hx hb dX12_init_495 (by decide) ?_
  refine cn_cst (k := 9) (tx := txP) hC hI hf (by decide) (by decide) rfl dX12_init_497 (fun f H locs hf hI => ?_)
  refine lv_dup hx hb dX12_init_498 rfl ?_
  refine lv_bipush (v := nI 10) hx hb dX12_init_499 (by decide) ?_
  refine lv_bipush (v := (111 : Int32)) hx hb dX12_init_501 (by decide) ?_
  refine cn_cst (k := 10) (tx := txP) hC hI hf (by decide) (by decide) rfl dX12_init_503 (fun f H locs hf hI => ?_)
  refine lv_dup hx hb dX12_init_504 rfl ?_
  refine lv_bipush (v := nI 11) hx hb dX12_init_505 (by decide) ?_
  refine lv_bipush (v := (119 : Int32)) hx hb dX12_init_507 (by decide) ?_
  refine cn_cst (k := 11) (tx := txP) hC hI hf (by decide) (by decide) rfl dX12_init_509 (fun f H locs hf hI => ?_)
  refine lv_dup hx hb dX12_init_510 rfl ?_
  refine lv_bipush (v := nI 12) hx hb dX12_init_511 (by decide) ?_
  refine lv_bipush (v := (110 : Int32)) hx hb dX12_init_513 (by decide) ?_
  refine cn_cst (k := 12) (tx := txP) hC hI hf (by decide) (by decide) rfl dX12_init_515 (fun f H locs hf hI => ?_)
  refine lv_dup hx hb dX12_init_516 rfl ?_
  refine lv_bipush (v := nI 13) hx hb dX12_init_517 (by decide) ?_
  refine lv_bipush (v := (32 : Int32)) hx hb dX12_init_519 (by decide) ?_
  refine cn_cst (k := 13) (tx := txP) hC hI hf (by decide) (by decide) rfl dX12_init_521 (fun f H locs hf hI => ?_)
  refine lv_dup hx hb dX12_init_522 rfl ?_
  refine lv_bipush (v := nI 14) hx hb dX12_init_523 (by decide) ?_
  refine lv_bipush (v := (32 : Int32)) hx hb dX12_init_525 (by decide) ?_
  refine cn_cst (k := 14) (tx := txP) hC hI hf (by decide) (by decide) rfl dX12_init_527 (fun f H locs hf hI => ?_)
  refine lv_dup hx hb dX12_init_528 rfl ?_
  refine lv_bipush (v := nI 15) hx hb dX12_init_529 (by decide) ?_
  refine lv_bipush (v := (32 : Int32)) hx hb dX12_init_531 (by decide) ?_
  refine cn_cst (k := 15) (tx := txP) hC hI hf (by decide) (by decide) rfl dX12_init_533 (fun f H locs hf hI => ?_)
  refine lv_dup hx hb dX12_init_534 rfl ?_
  refine lv_bipush (v := nI 16) hx hb dX12_init_535 (by decide) ?_
  refine lv_bipush (v := (116 : Int32)) hx hb dX12_init_537 (by decide) ?_
  refine cn_cst (k := 16) (tx := txP) hC hI hf (by decide) (by decide) rfl dX12_init_539 (fun f H locs hf hI => ?_)
  refine lv_dup hx hb dX12_init_540 rfl ?_
  refine lv_bipush (v := nI 17) hx hb dX12_init_541 (by decide) ?_
  refine lv_bipush (v := (105 : Int32)) hx hb dX12_init_543 (by decide) ?_
  refine cn_cst (k := 17) (tx := txP) hC hI hf (by decide) (by decide) rfl dX12_init_545 (fun f H locs hf hI => ?_)
  refine lv_dup hx hb dX12_init_546 rfl ?_
  refine lv_bipush (v := nI 18) hx hb dX12_init_547 (by decide) ?_
  refine lv_bipush (v := (115 : Int32)) hx hb dX12_init_549 (by decide) ?_
  refine cn_cst (k := 18) (tx := txP) hC hI hf (by decide) (by decide) rfl dX12_init_551 (fun f H locs hf hI => ?_)
  refine lv_dup hx hb dX12_init_552 rfl ?_
  refine lv_bipush (v := nI 19) hx hb dX12_init_553 (by decide) ?_
  refine lv_bipush (v := (115 : Int32)) hx hb dX12_init_555 (by decide) ?_
  refine cn_cst (k := 19) (tx := txP) hC hI hf (by decide) (by decide) rfl dX12_init_557 (fun f H locs hf hI => ?_)
  refine lv_dup hx hb dX12_init_558 rfl ?_
  refine lv_bipush (v := nI 20) hx hb dX12_init_559 (by decide) ?_
  refine lv_bipush (v := (117 : Int32)) hx hb dX12_init_561 (by decide) ?_
  refine cn_cst (k := 20) (tx := txP) hC hI hf (by decide) (by decide) rfl dX12_init_563 (fun f H locs hf hI => ?_)
  refine lv_dup hx hb dX12_init_564 rfl ?_
  refine lv_bipush (v := nI 21) hx hb dX12_init_565 (by decide) ?_
  refine lv_bipush (v := (101 : Int32)) hx hb dX12_init_567 (by decide) ?_
  refine cn_cst (k := 21) (tx := txP) hC hI hf (by decide) (by decide) rfl dX12_init_569 (fun f H locs hf hI => ?_)
  refine lv_dup hx hb dX12_init_570 rfl ?_
  refine lv_bipush (v := nI 22) hx hb dX12_init_571 (by decide) ?_
  refine lv_bipush (v := (32 : Int32)) hx hb dX12_init_573 (by decide) ?_
  refine cn_cst (k := 22) (tx := txP) hC hI hf (by decide) (by decide) rfl dX12_init_575 (fun f H locs hf hI => ?_)
  refine lv_dup hx hb dX12_init_576 rfl ?_
  refine lv_bipush (v := nI 23) hx hb dX12_init_577 (by decide) ?_
  refine lv_bipush (v := (32 : Int32)) hx hb dX12_init_579 (by decide) ?_
  refine cn_cst (k := 23) (tx := txP) hC hI hf (by decide) (by decide) rfl dX12_init_581 (fun f H locs hf hI => ?_)
  refine lv_dup hx hb dX12_init_582 rfl ?_
  refine lv_bipush (v := nI 24) hx hb dX12_init_583 (by decide) ?_
  refine lv_bipush (v := (109 : Int32)) hx hb dX12_init_585 (by decide) ?_
  refine cn_cst (k := 24) (tx := txP) hC hI hf (by decide) (by decide) rfl dX12_init_587 (fun f H locs hf hI => ?_)
  refine lv_dup hx hb dX12_init_588 rfl ?_
  refine lv_bipush (v := nI 25) hx hb dX12_init_589 (by decide) ?_
  refine lv_bipush (v := (97 : Int32)) hx hb dX12_init_591 (by decide) ?_
  refine cn_cst (k := 25) (tx := txP) hC hI hf (by decide) (by decide) rfl dX12_init_593 (fun f H locs hf hI => ?_)
  refine lv_dup hx hb dX12_init_594 rfl ?_
  refine lv_bipush (v := nI 26) hx hb dX12_init_595 (by decide) ?_
  refine lv_bipush (v := (114 : Int32)) hx hb dX12_init_597 (by decide) ?_
  refine cn_cst (k := 26) (tx := txP) hC hI hf (by decide) (by decide) rfl dX12_init_599 (fun f H locs hf hI => ?_)
  refine lv_dup hx hb dX12_init_600 rfl ?_
  refine lv_bipush (v := nI 27) hx hb dX12_init_601 (by decide) ?_
  refine lv_bipush (v := (98 : Int32)) hx hb dX12_init_603 (by decide) ?_
  refine cn_cst (k := 27) (tx := txP) hC hI hf (by decide) (by decide) rfl dX12_init_605 (fun f H locs hf hI => ?_)
  refine lv_dup hx hb dX12_init_606 rfl ?_
  refine lv_bipush (v := nI 28) hx hb dX12_init_607 (by decide) ?_
  refine lv_bipush (v := (108 : Int32)) hx hb dX12_init_609 (by decide) ?_
  refine cn_cst (k := 28) (tx := txP) hC hI hf (by decide) (by decide) rfl dX12_init_611 (fun f H locs hf hI => ?_)
  refine lv_dup hx hb dX12_init_612 rfl ?_
  refine lv_bipush (v := nI 29) hx hb dX12_init_613 (by decide) ?_
  refine lv_bipush (v := (101 : Int32)) hx hb dX12_init_615 (by decide) ?_
  refine cn_cst (k := 29) (tx := txP) hC hI hf (by decide) (by decide) rfl dX12_init_617 (fun f H locs hf hI => ?_)
  refine lv_dup hx hb dX12_init_618 rfl ?_
  refine lv_bipush (v := nI 30) hx hb dX12_init_619 (by decide) ?_
  refine lv_bipush (v := (100 : Int32)) hx hb dX12_init_621 (by decide) ?_
  refine cn_cst (k := 30) (tx := txP) hC hI hf (by decide) (by decide) rfl dX12_init_623 (fun f H locs hf hI => ?_)
  refine lv_dup hx hb dX12_init_624 rfl ?_
  refine lv_bipush (v := nI 31) hx hb dX12_init_625 (by decide) ?_
  refine lv_bipush (v := (32 : Int32)) hx hb dX12_init_627 (by decide) ?_
  refine cn_cst (k := 31) (tx := txP) hC hI hf (by decide) (by decide) rfl dX12_init_629 (fun f H locs hf hI => ?_)
  obtain ⟨f105, hf105, hI⟩ : ∃ f9 : Nat → Int32, (∀ j, j < 32 → f9 j = txP.getD j 0) ∧ cn_I D _ (_ ++ [(q105, .inl (kA 13, 32, .inl f9))]) s H locs := ⟨f, hf, hI⟩
  refine cn_put (fs := [.ref q97, .ref q98, .ref q99, .int 0, .ref q100, .int 0, .ref q101, .ref q102, .int 0, .int 0, .int 0, .int 0, .long 0, .ref q103, .ref q104, .null, .null, .null, .null, .null]) hC hI ff_X12_15 hnm rfl rfl q_813 (Nat.le_of_ble_eq_true rfl) dX12_init_630 (fun H locs hI => ?_)
  refine lv_aload_n hx hb dX12_init_633 rfl (lv_at hl 0 rfl) ?_
  refine lv_iconst (v := (4 : Int32)) hx hb dX12_init_634 (by decide) ?_
  refine cn_newI (N := 4) hC hI (by decide) (by decide) (by decide) (Nat.le_of_ble_eq_true rfl) (Nat.le_of_ble_eq_true rfl) dX12_init_635 (fun q106 H hI => ?_)
  refine cn_put (fs := [.ref q97, .ref q98, .ref q99, .int 0, .ref q100, .int 0, .ref q101, .ref q102, .int 0, .int 0, .int 0, .int 0, .long 0, .ref q103, .ref q104, .ref q105, .null, .null, .null, .null]) hC hI ff_X12_16 hnm rfl rfl q_814 (Nat.le_of_ble_eq_true rfl) dX12_init_637 (fun H locs hI => ?_)
  refine lv_aload_n hx hb dX12_init_640 rfl (lv_at hl 0 rfl) ?_
  refine lv_iconst (v := (4 : Int32)) hx hb dX12_init_641 (by decide) ?_
  refine cn_newI (N := 4) hC hI (by decide) (by decide) (by decide) (Nat.le_of_ble_eq_true rfl) (Nat.le_of_ble_eq_true rfl) dX12_init_642 (fun q107 H hI => ?_)
  refine cn_put (fs := [.ref q97, .ref q98, .ref q99, .int 0, .ref q100, .int 0, .ref q101, .ref q102, .int 0, .int 0, .int 0, .int 0, .long 0, .ref q103, .ref q104, .ref q105, .ref q106, .null, .null, .null]) hC hI ff_X12_17 hnm rfl rfl q_815 (Nat.le_of_ble_eq_true rfl) dX12_init_644 (fun H locs hI => ?_)
  refine lv_aload_n hx hb dX12_init_647 rfl (lv_at hl 0 rfl) ?_
  refine lv_sipush (v := (160 : Int32)) hx hb dX12_init_648 (by decide) ?_
  refine cn_newL (N := 160) hC hI (by decide) (by decide) (by decide) (Nat.le_of_ble_eq_true rfl) (Nat.le_of_ble_eq_true rfl) dX12_init_651 (fun q108 H hI => ?_)
  refine cn_put (fs := [.ref q97, .ref q98, .ref q99, .int 0, .ref q100, .int 0, .ref q101, .ref q102, .int 0, .int 0, .int 0, .int 0, .long 0, .ref q103, .ref q104, .ref q105, .ref q106, .ref q107, .null, .null]) hC hI ff_X12_18 hnm rfl rfl q_816 (Nat.le_of_ble_eq_true rfl) dX12_init_653 (fun H locs hI => ?_)
  refine lv_aload_n hx hb dX12_init_656 rfl (lv_at hl 0 rfl) ?_
  refine lv_bipush (v := (40 : Int32)) hx hb dX12_init_657 (by decide) ?_
  refine cn_newL (N := 40) hC hI (by decide) (by decide) (by decide) (Nat.le_of_ble_eq_true rfl) (Nat.le_of_ble_eq_true rfl) dX12_init_659 (fun q109 H hI => ?_)
  refine cn_put (fs := [.ref q97, .ref q98, .ref q99, .int 0, .ref q100, .int 0, .ref q101, .ref q102, .int 0, .int 0, .int 0, .int 0, .long 0, .ref q103, .ref q104, .ref q105, .ref q106, .ref q107, .ref q108, .null]) hC hI ff_X12_19 hnm rfl rfl q_817 (Nat.le_of_ble_eq_true rfl) dX12_init_661 (fun H locs hI => ?_)
  have hI : cn_I D (va_A [(h0, .inr (12, [.null, .null, .null, .int 0, .null, .int 0, .null, .null, .int 0, .int 0, .int 0, .int 0, .long 0, .null, .null, .null, .null, .null, .null, .null]))] s.heap.size) [(h0, .inr (12, [.ref q97, .ref q98, .ref q99, .int 0, .ref q100, .int 0, .ref q101, .ref q102, .int 0, .int 0, .int 0, .int 0, .long 0, .ref q103, .ref q104, .ref q105, .ref q106, .ref q107, .ref q108, .ref q109])), (q97, .inl (kA 14, 96, .inl (fun _ => 0))), (q98, .inl (kA 14, 96, .inl (fun _ => 0))), (q99, .inl (kA 14, 96, .inl (fun _ => 0))), (q100, .inl (kA 14, 7, .inl (fun _ => 0))), (q101, .inl (kA 14, 5, .inl (fun _ => 0))), (q102, .inl (kA 14, 120, .inl (fun _ => 0))), (q103, .inl (kA 13, 48, .inl f103)), (q104, .inl (kA 13, 16, .inl f104)), (q105, .inl (kA 13, 32, .inl f105)), (q106, .inl (kA 14, 4, .inl (fun _ => 0))), (q107, .inl (kA 14, 4, .inl (fun _ => 0))), (q108, .inl (kA 15, 160, .inr (.inl (fun _ => 0)))), (q109, .inl (kA 15, 40, .inr (.inl (fun _ => 0))))] s H locs := hI
  exact cn_vr hC hr hlk hI (y_fin hf103 hf104 hf105) (Nat.le_refl _) (Nat.le_refl _) dX12_init_664
