set_option maxHeartbeats 4000000 in
set_option maxRecDepth 100000 in
theorem lc_wipe {p : Program} {l : Launch} {e : Env} {s : State} {m : MethodId} {below : List Frame} {meth : Method} {c : Code} {G : fm_G} {σ : fm_M} {b L i : Nat} {xs : Nat → Int32} {H : Heap} {locs : List Loc} {ls : Array Slot} (hC : fm_C G p m c code 4 s #[Value.ref b] R_law) (hX : va_X b L xs s s.heap) (hbl : b < s.heap.size) (hbA : ¬ fm_A G b) (hi : i + 6 ≤ L) (hL : L ≤ 3072) (hI : fm_I G σ s H locs) (hv : Inv σ) (hl : lv_has ls 4 [(0, .ref b), (1, .ref (G.2.1 0)), (2, .ref (G.2.1 96)), (3, .int (nI i))])
    (K : ∀ (σ : fm_M) (H : Heap) (locs : List Loc), fm_I G σ s H locs → Inv σ → W p l e room_1 s m #[Value.ref b] below meth c H locs 600000 7302250 (lw_Z below #[Value.ref b] s) (F0 m 1462 ls [])) : W p l e room_1 s m #[Value.ref b] below meth c H locs 600000 7302250 (lw_Z below #[Value.ref b] s) (F0 m 1062 ls []) := by
  have hx := hC.1.1
  have hb := hC.1.2.1
  have hown := hC.1.2.2.2.1
  have hts := hC.1.2.2.2.2
  obtain ⟨r, σ1, σ2, e1, e2, hv2⟩ := op_wipe  hv
  refine lv_aload_n hx hb dL_1062 rfl (lv_at hl 1 rfl) ?_
  refine fm_ci hI (fm_runV (As := []) (rest := []) (rm := { frames := 0, cells := 0, slots := 0, locals := 0 }) hC hI (c_X11_wipe hC.2.2.1 e1) mV_X11_wipe q_598 ⟨rfl, rfl⟩ ⟨Nat.le_of_ble_eq_true rfl, Nat.le_of_ble_eq_true rfl⟩ fc_0 rfl (by decide) rfl hl.1 rfl (Nat.le_of_ble_eq_true rfl) dL_1063 ⟨Nat.le_refl _, Nat.le_refl _⟩) (fun H locs hI => ?_)
  refine lv_aload_n hx hb dL_1066 rfl (lv_at hl 2 rfl) ?_
  refine fm_ci hI (fm_runV (As := []) (rest := [.int r]) (rm := { frames := 0, cells := 0, slots := 0, locals := 0 }) hC hI (c_X12_wipe hC.2.2.1 e2) mV_X12_wipe q_1112 ⟨rfl, rfl⟩ ⟨Nat.le_of_ble_eq_true rfl, Nat.le_of_ble_eq_true rfl⟩ fc_96 rfl (by decide) rfl hl.1 rfl (Nat.le_of_ble_eq_true rfl) dL_1067 ⟨Nat.le_refl _, Nat.le_refl _⟩) (fun H locs hI => ?_)
  exact lv_icmp_eq (tgt := 1462) hx hb dL_1070 (by decide) (fun _ => K σ2 H locs hI hv2) (fun hc => absurd rfl hc)
set_option maxHeartbeats 4000000 in
set_option maxRecDepth 100000 in
theorem lc_town {p : Program} {l : Launch} {e : Env} {s : State} {m : MethodId} {below : List Frame} {meth : Method} {c : Code} {G : fm_G} {σ : fm_M} {b L i : Nat} {xs : Nat → Int32} {H : Heap} {locs : List Loc} {ls : Array Slot} (hC : fm_C G p m c code 4 s #[Value.ref b] R_law) (hX : va_X b L xs s s.heap) (hbl : b < s.heap.size) (hbA : ¬ fm_A G b) (hi : i + 6 ≤ L) (hL : L ≤ 3072) (hI : fm_I G σ s H locs) (hv : Inv σ) (hl : lv_has ls 4 [(0, .ref b), (1, .ref (G.2.1 0)), (2, .ref (G.2.1 96)), (3, .int (nI i))])
    (K : ∀ (σ : fm_M) (H : Heap) (locs : List Loc), fm_I G σ s H locs → Inv σ → W p l e room_1 s m #[Value.ref b] below meth c H locs 600000 7302250 (lw_Z below #[Value.ref b] s) (F0 m 1462 ls [])) : W p l e room_1 s m #[Value.ref b] below meth c H locs 600000 7302250 (lw_Z below #[Value.ref b] s) (F0 m 1075 ls []) := by
  have hx := hC.1.1
  have hb := hC.1.2.1
  have hown := hC.1.2.2.2.1
  have hts := hC.1.2.2.2.2
  obtain ⟨r, σ1, σ2, e1, e2, hv2⟩ := op_town  hv
  refine lv_aload_n hx hb dL_1075 rfl (lv_at hl 1 rfl) ?_
  refine fm_ci hI (fm_runV (As := []) (rest := []) (rm := { frames := 10, cells := 0, slots := 0, locals := 216 }) hC hI (c_X11_town hC.2.2.1 e1) mV_X11_town q_602 ⟨rfl, rfl⟩ ⟨Nat.le_of_ble_eq_true rfl, Nat.le_of_ble_eq_true rfl⟩ fc_0 rfl (by decide) rfl hl.1 rfl (Nat.le_of_ble_eq_true rfl) dL_1076 ⟨Nat.le_refl _, Nat.le_refl _⟩) (fun H locs hI => ?_)
  refine lv_aload_n hx hb dL_1079 rfl (lv_at hl 2 rfl) ?_
  refine fm_ci hI (fm_runV (As := []) (rest := [.int r]) (rm := { frames := 6, cells := 0, slots := 0, locals := 129 }) hC hI (c_X12_town hC.2.2.1 e2) mV_X12_town q_1116 ⟨rfl, rfl⟩ ⟨Nat.le_of_ble_eq_true rfl, Nat.le_of_ble_eq_true rfl⟩ fc_96 rfl (by decide) rfl hl.1 rfl (Nat.le_of_ble_eq_true rfl) dL_1080 ⟨Nat.le_refl _, Nat.le_refl _⟩) (fun H locs hI => ?_)
  exact lv_icmp_eq (tgt := 1462) hx hb dL_1083 (by decide) (fun _ => K σ2 H locs hI hv2) (fun hc => absurd rfl hc)
set_option maxHeartbeats 4000000 in
set_option maxRecDepth 100000 in
theorem lc_sheet {p : Program} {l : Launch} {e : Env} {s : State} {m : MethodId} {below : List Frame} {meth : Method} {c : Code} {G : fm_G} {σ : fm_M} {b L i : Nat} {xs : Nat → Int32} {H : Heap} {locs : List Loc} {ls : Array Slot} (hC : fm_C G p m c code 4 s #[Value.ref b] R_law) (hX : va_X b L xs s s.heap) (hbl : b < s.heap.size) (hbA : ¬ fm_A G b) (hi : i + 6 ≤ L) (hL : L ≤ 3072) (hI : fm_I G σ s H locs) (hv : Inv σ) (hl : lv_has ls 4 [(0, .ref b), (1, .ref (G.2.1 0)), (2, .ref (G.2.1 96)), (3, .int (nI i))])
    (K : ∀ (σ : fm_M) (H : Heap) (locs : List Loc), fm_I G σ s H locs → Inv σ → W p l e room_1 s m #[Value.ref b] below meth c H locs 600000 7302250 (lw_Z below #[Value.ref b] s) (F0 m 1462 ls [])) : W p l e room_1 s m #[Value.ref b] below meth c H locs 600000 7302250 (lw_Z below #[Value.ref b] s) (F0 m 1088 ls []) := by
  have hx := hC.1.1
  have hb := hC.1.2.1
  have hown := hC.1.2.2.2.1
  have hts := hC.1.2.2.2.2
  obtain ⟨r, σ1, σ2, e1, e2, hv2⟩ := op_sheet (xs (i + 1)) (xs (i + 2)) (xs (i + 3)) hv
  refine lv_aload_n hx hb dL_1088 rfl (lv_at hl 1 rfl) ?_
  refine lw_ld (k := 1) hC hX hbl hbA hi hL (by decide) hI hl (by decide) dL_1089 dL_1090 dL_1091 dL_1092 dL_1093 ?_
  refine lw_ld (k := 2) hC hX hbl hbA hi hL (by decide) hI hl (by decide) dL_1094 dL_1095 dL_1096 dL_1097 dL_1098 ?_
  refine lw_ld (k := 3) hC hX hbl hbA hi hL (by decide) hI hl (by decide) dL_1099 dL_1100 dL_1101 dL_1102 dL_1103 ?_
  refine fm_ci hI (fm_runV (As := [.int (xs (i + 1)), .int (xs (i + 2)), .int (xs (i + 3))]) (rest := []) (rm := { frames := 2, cells := 0, slots := 0, locals := 44 }) hC hI (c_X11_sheet hC.2.2.1 e1) mV_X11_sheet q_712 ⟨rfl, rfl⟩ ⟨Nat.le_of_ble_eq_true rfl, Nat.le_of_ble_eq_true rfl⟩ fc_0 rfl (by decide) rfl hl.1 rfl (Nat.le_of_ble_eq_true rfl) dL_1104 ⟨Nat.le_refl _, Nat.le_refl _⟩) (fun H locs hI => ?_)
  refine lv_aload_n hx hb dL_1107 rfl (lv_at hl 2 rfl) ?_
  refine lw_ld (k := 1) hC hX hbl hbA hi hL (by decide) hI hl (by decide) dL_1108 dL_1109 dL_1110 dL_1111 dL_1112 ?_
  refine lw_ld (k := 2) hC hX hbl hbA hi hL (by decide) hI hl (by decide) dL_1113 dL_1114 dL_1115 dL_1116 dL_1117 ?_
  refine lw_ld (k := 3) hC hX hbl hbA hi hL (by decide) hI hl (by decide) dL_1118 dL_1119 dL_1120 dL_1121 dL_1122 ?_
  refine fm_ci hI (fm_runV (As := [.int (xs (i + 1)), .int (xs (i + 2)), .int (xs (i + 3))]) (rest := [.int r]) (rm := { frames := 2, cells := 0, slots := 0, locals := 42 }) hC hI (c_X12_sheet hC.2.2.1 e2) mV_X12_sheet q_1152 ⟨rfl, rfl⟩ ⟨Nat.le_of_ble_eq_true rfl, Nat.le_of_ble_eq_true rfl⟩ fc_96 rfl (by decide) rfl hl.1 rfl (Nat.le_of_ble_eq_true rfl) dL_1123 ⟨Nat.le_refl _, Nat.le_refl _⟩) (fun H locs hI => ?_)
  exact lv_icmp_eq (tgt := 1462) hx hb dL_1126 (by decide) (fun _ => K σ2 H locs hI hv2) (fun hc => absurd rfl hc)
set_option maxHeartbeats 4000000 in
set_option maxRecDepth 100000 in
theorem lc_write {p : Program} {l : Launch} {e : Env} {s : State} {m : MethodId} {below : List Frame} {meth : Method} {c : Code} {G : fm_G} {σ : fm_M} {b L i : Nat} {xs : Nat → Int32} {H : Heap} {locs : List Loc} {ls : Array Slot} (hC : fm_C G p m c code 4 s #[Value.ref b] R_law) (hX : va_X b L xs s s.heap) (hbl : b < s.heap.size) (hbA : ¬ fm_A G b) (hi : i + 6 ≤ L) (hL : L ≤ 3072) (hI : fm_I G σ s H locs) (hv : Inv σ) (hl : lv_has ls 4 [(0, .ref b), (1, .ref (G.2.1 0)), (2, .ref (G.2.1 96)), (3, .int (nI i))])
    (K : ∀ (σ : fm_M) (H : Heap) (locs : List Loc), fm_I G σ s H locs → Inv σ → W p l e room_1 s m #[Value.ref b] below meth c H locs 600000 7302250 (lw_Z below #[Value.ref b] s) (F0 m 1462 ls [])) : W p l e room_1 s m #[Value.ref b] below meth c H locs 600000 7302250 (lw_Z below #[Value.ref b] s) (F0 m 1131 ls []) := by
  have hx := hC.1.1
  have hb := hC.1.2.1
  have hown := hC.1.2.2.2.1
  have hts := hC.1.2.2.2.2
  obtain ⟨r, σ1, σ2, e1, e2, hv2⟩ := op_write (xs (i + 1)) (xs (i + 2)) ((((xs (i + 3)).toInt64) <<< ((32 : Int32).toInt64 &&& 63)) ||| (((xs (i + 4)).toInt64) &&& (4294967295 : Int64))) hv
  refine lv_aload_n hx hb dL_1131 rfl (lv_at hl 1 rfl) ?_
  refine lw_ld (k := 1) hC hX hbl hbA hi hL (by decide) hI hl (by decide) dL_1132 dL_1133 dL_1134 dL_1135 dL_1136 ?_
  refine lw_ld (k := 2) hC hX hbl hbA hi hL (by decide) hI hl (by decide) dL_1137 dL_1138 dL_1139 dL_1140 dL_1141 ?_
  refine lw_ld (k := 3) hC hX hbl hbA hi hL (by decide) hI hl (by decide) dL_1142 dL_1143 dL_1144 dL_1145 dL_1146 ?_
  refine lv_i2l (v := (xs (i + 3)).toInt64) hx hb dL_1147 rfl ?_
  refine lv_bipush (v := (32 : Int32)) hx hb dL_1148 (by decide) ?_
  refine lv_lshl (v := (((xs (i + 3)).toInt64) <<< ((32 : Int32).toInt64 &&& 63))) hx hb dL_1150 rfl ?_
  refine lw_ld (k := 4) hC hX hbl hbA hi hL (by decide) hI hl (by decide) dL_1151 dL_1152 dL_1153 dL_1154 dL_1155 ?_
  refine lv_i2l (v := (xs (i + 4)).toInt64) hx hb dL_1156 rfl ?_
  refine lv_ldc2 (v := (4294967295 : Int64)) hx hb hown (hts _ q_1219) dL_1157 ?_
  refine lv_land hx hb dL_1160 ?_
  refine lv_lor hx hb dL_1161 ?_
  refine fm_cl hI (fm_runV (As := [.int (xs (i + 1)), .int (xs (i + 2)), .long ((((xs (i + 3)).toInt64) <<< ((32 : Int32).toInt64 &&& 63)) ||| (((xs (i + 4)).toInt64) &&& (4294967295 : Int64)))]) (rest := []) (rm := { frames := 2, cells := 0, slots := 0, locals := 44 }) hC hI (c_X11_write hC.2.2.1 e1) mV_X11_write q_723 ⟨rfl, rfl⟩ ⟨Nat.le_of_ble_eq_true rfl, Nat.le_of_ble_eq_true rfl⟩ fc_0 rfl (by decide) rfl hl.1 rfl (Nat.le_of_ble_eq_true rfl) dL_1162 ⟨Nat.le_refl _, Nat.le_refl _⟩) (fun H locs hI => ?_)
  refine lv_aload_n hx hb dL_1165 rfl (lv_at hl 2 rfl) ?_
  refine lw_ld (k := 1) hC hX hbl hbA hi hL (by decide) hI hl (by decide) dL_1166 dL_1167 dL_1168 dL_1169 dL_1170 ?_
  refine lw_ld (k := 2) hC hX hbl hbA hi hL (by decide) hI hl (by decide) dL_1171 dL_1172 dL_1173 dL_1174 dL_1175 ?_
  refine lw_ld (k := 3) hC hX hbl hbA hi hL (by decide) hI hl (by decide) dL_1176 dL_1177 dL_1178 dL_1179 dL_1180 ?_
  refine lv_i2l (v := (xs (i + 3)).toInt64) hx hb dL_1181 rfl ?_
  refine lv_bipush (v := (32 : Int32)) hx hb dL_1182 (by decide) ?_
  refine lv_lshl (v := (((xs (i + 3)).toInt64) <<< ((32 : Int32).toInt64 &&& 63))) hx hb dL_1184 rfl ?_
  refine lw_ld (k := 4) hC hX hbl hbA hi hL (by decide) hI hl (by decide) dL_1185 dL_1186 dL_1187 dL_1188 dL_1189 ?_
  refine lv_i2l (v := (xs (i + 4)).toInt64) hx hb dL_1190 rfl ?_
  refine lv_ldc2 (v := (4294967295 : Int64)) hx hb hown (hts _ q_1219) dL_1191 ?_
  refine lv_land hx hb dL_1194 ?_
  refine lv_lor hx hb dL_1195 ?_
  refine fm_cl hI (fm_runV (As := [.int (xs (i + 1)), .int (xs (i + 2)), .long ((((xs (i + 3)).toInt64) <<< ((32 : Int32).toInt64 &&& 63)) ||| (((xs (i + 4)).toInt64) &&& (4294967295 : Int64)))]) (rest := [.long r]) (rm := { frames := 3, cells := 0, slots := 0, locals := 63 }) hC hI (c_X12_write hC.2.2.1 e2) mV_X12_write q_1159 ⟨rfl, rfl⟩ ⟨Nat.le_of_ble_eq_true rfl, Nat.le_of_ble_eq_true rfl⟩ fc_96 rfl (by decide) rfl hl.1 rfl (Nat.le_of_ble_eq_true rfl) dL_1196 ⟨Nat.le_refl _, Nat.le_refl _⟩) (fun H locs hI => ?_)
  refine W.lcmp hx hb dL_1199 ?_
  exact lv_if_eq (tgt := 1462) hx hb dL_1200 (by decide) (fun _ => K σ2 H locs hI hv2) (fun hc => absurd ((lg_cmp_eq _ _).mpr rfl) hc)
set_option maxHeartbeats 4000000 in
set_option maxRecDepth 100000 in
theorem lc_copy {p : Program} {l : Launch} {e : Env} {s : State} {m : MethodId} {below : List Frame} {meth : Method} {c : Code} {G : fm_G} {σ : fm_M} {b L i : Nat} {xs : Nat → Int32} {H : Heap} {locs : List Loc} {ls : Array Slot} (hC : fm_C G p m c code 4 s #[Value.ref b] R_law) (hX : va_X b L xs s s.heap) (hbl : b < s.heap.size) (hbA : ¬ fm_A G b) (hi : i + 6 ≤ L) (hL : L ≤ 3072) (hI : fm_I G σ s H locs) (hv : Inv σ) (hl : lv_has ls 4 [(0, .ref b), (1, .ref (G.2.1 0)), (2, .ref (G.2.1 96)), (3, .int (nI i))])
    (K : ∀ (σ : fm_M) (H : Heap) (locs : List Loc), fm_I G σ s H locs → Inv σ → W p l e room_1 s m #[Value.ref b] below meth c H locs 600000 7302250 (lw_Z below #[Value.ref b] s) (F0 m 1462 ls [])) : W p l e room_1 s m #[Value.ref b] below meth c H locs 600000 7302250 (lw_Z below #[Value.ref b] s) (F0 m 1205 ls []) := by
  have hx := hC.1.1
  have hb := hC.1.2.1
  have hown := hC.1.2.2.2.1
  have hts := hC.1.2.2.2.2
  obtain ⟨r, σ1, σ2, e1, e2, hv2⟩ := op_copy (xs (i + 1)) (xs (i + 2)) (xs (i + 3)) (xs (i + 4)) (xs (i + 5)) hv
  refine lv_aload_n hx hb dL_1205 rfl (lv_at hl 1 rfl) ?_
  refine lw_ld (k := 1) hC hX hbl hbA hi hL (by decide) hI hl (by decide) dL_1206 dL_1207 dL_1208 dL_1209 dL_1210 ?_
  refine lw_ld (k := 2) hC hX hbl hbA hi hL (by decide) hI hl (by decide) dL_1211 dL_1212 dL_1213 dL_1214 dL_1215 ?_
  refine lw_ld (k := 3) hC hX hbl hbA hi hL (by decide) hI hl (by decide) dL_1216 dL_1217 dL_1218 dL_1219 dL_1220 ?_
  refine lw_ld (k := 4) hC hX hbl hbA hi hL (by decide) hI hl (by decide) dL_1221 dL_1222 dL_1223 dL_1224 dL_1225 ?_
  refine lw_ld (k := 5) hC hX hbl hbA hi hL (by decide) hI hl (by decide) dL_1226 dL_1227 dL_1228 dL_1229 dL_1230 ?_
  refine fm_ci hI (fm_runV (As := [.int (xs (i + 1)), .int (xs (i + 2)), .int (xs (i + 3)), .int (xs (i + 4)), .int (xs (i + 5))]) (rest := []) (rm := { frames := 2, cells := 0, slots := 0, locals := 60 }) hC hI (c_X11_copy hC.2.2.1 e1) mV_X11_copy q_736 ⟨rfl, rfl⟩ ⟨Nat.le_of_ble_eq_true rfl, Nat.le_of_ble_eq_true rfl⟩ fc_0 rfl (by decide) rfl hl.1 rfl (Nat.le_of_ble_eq_true rfl) dL_1231 ⟨Nat.le_refl _, Nat.le_refl _⟩) (fun H locs hI => ?_)
  refine lv_aload_n hx hb dL_1234 rfl (lv_at hl 2 rfl) ?_
  refine lw_ld (k := 1) hC hX hbl hbA hi hL (by decide) hI hl (by decide) dL_1235 dL_1236 dL_1237 dL_1238 dL_1239 ?_
  refine lw_ld (k := 2) hC hX hbl hbA hi hL (by decide) hI hl (by decide) dL_1240 dL_1241 dL_1242 dL_1243 dL_1244 ?_
  refine lw_ld (k := 3) hC hX hbl hbA hi hL (by decide) hI hl (by decide) dL_1245 dL_1246 dL_1247 dL_1248 dL_1249 ?_
  refine lw_ld (k := 4) hC hX hbl hbA hi hL (by decide) hI hl (by decide) dL_1250 dL_1251 dL_1252 dL_1253 dL_1254 ?_
  refine lw_ld (k := 5) hC hX hbl hbA hi hL (by decide) hI hl (by decide) dL_1255 dL_1256 dL_1257 dL_1258 dL_1259 ?_
  refine fm_ci hI (fm_runV (As := [.int (xs (i + 1)), .int (xs (i + 2)), .int (xs (i + 3)), .int (xs (i + 4)), .int (xs (i + 5))]) (rest := [.int r]) (rm := { frames := 2, cells := 0, slots := 0, locals := 42 }) hC hI (c_X12_copy hC.2.2.1 e2) mV_X12_copy q_1175 ⟨rfl, rfl⟩ ⟨Nat.le_of_ble_eq_true rfl, Nat.le_of_ble_eq_true rfl⟩ fc_96 rfl (by decide) rfl hl.1 rfl (Nat.le_of_ble_eq_true rfl) dL_1260 ⟨Nat.le_refl _, Nat.le_refl _⟩) (fun H locs hI => ?_)
  exact lv_icmp_eq (tgt := 1462) hx hb dL_1263 (by decide) (fun _ => K σ2 H locs hI hv2) (fun hc => absurd rfl hc)
set_option maxHeartbeats 4000000 in
set_option maxRecDepth 100000 in
theorem lc_lays {p : Program} {l : Launch} {e : Env} {s : State} {m : MethodId} {below : List Frame} {meth : Method} {c : Code} {G : fm_G} {σ : fm_M} {b L i : Nat} {xs : Nat → Int32} {H : Heap} {locs : List Loc} {ls : Array Slot} (hC : fm_C G p m c code 4 s #[Value.ref b] R_law) (hX : va_X b L xs s s.heap) (hbl : b < s.heap.size) (hbA : ¬ fm_A G b) (hi : i + 6 ≤ L) (hL : L ≤ 3072) (hI : fm_I G σ s H locs) (hv : Inv σ) (hl : lv_has ls 4 [(0, .ref b), (1, .ref (G.2.1 0)), (2, .ref (G.2.1 96)), (3, .int (nI i))])
    (K : ∀ (σ : fm_M) (H : Heap) (locs : List Loc), fm_I G σ s H locs → Inv σ → W p l e room_1 s m #[Value.ref b] below meth c H locs 600000 7302250 (lw_Z below #[Value.ref b] s) (F0 m 1462 ls [])) : W p l e room_1 s m #[Value.ref b] below meth c H locs 600000 7302250 (lw_Z below #[Value.ref b] s) (F0 m 1268 ls []) := by
  have hx := hC.1.1
  have hb := hC.1.2.1
  have hown := hC.1.2.2.2.1
  have hts := hC.1.2.2.2.2
  obtain ⟨r, σ1, σ2, e1, e2, hv2⟩ := op_lays (xs (i + 1)) (xs (i + 2)) hv
  refine lv_aload_n hx hb dL_1268 rfl (lv_at hl 1 rfl) ?_
  refine lw_ld (k := 1) hC hX hbl hbA hi hL (by decide) hI hl (by decide) dL_1269 dL_1270 dL_1271 dL_1272 dL_1273 ?_
  refine lw_ld (k := 2) hC hX hbl hbA hi hL (by decide) hI hl (by decide) dL_1274 dL_1275 dL_1276 dL_1277 dL_1278 ?_
  refine fm_ci hI (fm_runV (As := [.int (xs (i + 1)), .int (xs (i + 2))]) (rest := []) (rm := { frames := 2, cells := 0, slots := 0, locals := 44 }) hC hI (c_X11_lays hC.2.2.1 e1) mV_X11_lays q_747 ⟨rfl, rfl⟩ ⟨Nat.le_of_ble_eq_true rfl, Nat.le_of_ble_eq_true rfl⟩ fc_0 rfl (by decide) rfl hl.1 rfl (Nat.le_of_ble_eq_true rfl) dL_1279 ⟨Nat.le_refl _, Nat.le_refl _⟩) (fun H locs hI => ?_)
  refine lv_aload_n hx hb dL_1282 rfl (lv_at hl 2 rfl) ?_
  refine lw_ld (k := 1) hC hX hbl hbA hi hL (by decide) hI hl (by decide) dL_1283 dL_1284 dL_1285 dL_1286 dL_1287 ?_
  refine lw_ld (k := 2) hC hX hbl hbA hi hL (by decide) hI hl (by decide) dL_1288 dL_1289 dL_1290 dL_1291 dL_1292 ?_
  refine fm_ci hI (fm_runV (As := [.int (xs (i + 1)), .int (xs (i + 2))]) (rest := [.int r]) (rm := { frames := 3, cells := 0, slots := 0, locals := 63 }) hC hI (c_X12_lays hC.2.2.1 e2) mV_X12_lays q_1179 ⟨rfl, rfl⟩ ⟨Nat.le_of_ble_eq_true rfl, Nat.le_of_ble_eq_true rfl⟩ fc_96 rfl (by decide) rfl hl.1 rfl (Nat.le_of_ble_eq_true rfl) dL_1293 ⟨Nat.le_refl _, Nat.le_refl _⟩) (fun H locs hI => ?_)
  exact lv_icmp_eq (tgt := 1462) hx hb dL_1296 (by decide) (fun _ => K σ2 H locs hI hv2) (fun hc => absurd rfl hc)
set_option maxHeartbeats 4000000 in
set_option maxRecDepth 100000 in
theorem lc_book {p : Program} {l : Launch} {e : Env} {s : State} {m : MethodId} {below : List Frame} {meth : Method} {c : Code} {G : fm_G} {σ : fm_M} {b L i : Nat} {xs : Nat → Int32} {H : Heap} {locs : List Loc} {ls : Array Slot} (hC : fm_C G p m c code 4 s #[Value.ref b] R_law) (hX : va_X b L xs s s.heap) (hbl : b < s.heap.size) (hbA : ¬ fm_A G b) (hi : i + 6 ≤ L) (hL : L ≤ 3072) (hI : fm_I G σ s H locs) (hv : Inv σ) (hl : lv_has ls 4 [(0, .ref b), (1, .ref (G.2.1 0)), (2, .ref (G.2.1 96)), (3, .int (nI i))])
    (K : ∀ (σ : fm_M) (H : Heap) (locs : List Loc), fm_I G σ s H locs → Inv σ → W p l e room_1 s m #[Value.ref b] below meth c H locs 600000 7302250 (lw_Z below #[Value.ref b] s) (F0 m 1462 ls [])) : W p l e room_1 s m #[Value.ref b] below meth c H locs 600000 7302250 (lw_Z below #[Value.ref b] s) (F0 m 1301 ls []) := by
  have hx := hC.1.1
  have hb := hC.1.2.1
  have hown := hC.1.2.2.2.1
  have hts := hC.1.2.2.2.2
  obtain ⟨r, σ1, σ2, e1, e2, hv2⟩ := op_book (xs (i + 1)) (xs (i + 2)) hv
  refine lv_aload_n hx hb dL_1301 rfl (lv_at hl 1 rfl) ?_
  refine lw_ld (k := 1) hC hX hbl hbA hi hL (by decide) hI hl (by decide) dL_1302 dL_1303 dL_1304 dL_1305 dL_1306 ?_
  refine lw_ld (k := 2) hC hX hbl hbA hi hL (by decide) hI hl (by decide) dL_1307 dL_1308 dL_1309 dL_1310 dL_1311 ?_
  refine fm_ci hI (fm_runV (As := [.int (xs (i + 1)), .int (xs (i + 2))]) (rest := []) (rm := { frames := 5, cells := 0, slots := 0, locals := 118 }) hC hI (c_X11_book hC.2.2.1 e1) mV_X11_book q_754 ⟨rfl, rfl⟩ ⟨Nat.le_of_ble_eq_true rfl, Nat.le_of_ble_eq_true rfl⟩ fc_0 rfl (by decide) rfl hl.1 rfl (Nat.le_of_ble_eq_true rfl) dL_1312 ⟨Nat.le_refl _, Nat.le_refl _⟩) (fun H locs hI => ?_)
  refine lv_aload_n hx hb dL_1315 rfl (lv_at hl 2 rfl) ?_
  refine lw_ld (k := 1) hC hX hbl hbA hi hL (by decide) hI hl (by decide) dL_1316 dL_1317 dL_1318 dL_1319 dL_1320 ?_
  refine lw_ld (k := 2) hC hX hbl hbA hi hL (by decide) hI hl (by decide) dL_1321 dL_1322 dL_1323 dL_1324 dL_1325 ?_
  refine fm_ci hI (fm_runV (As := [.int (xs (i + 1)), .int (xs (i + 2))]) (rest := [.int r]) (rm := { frames := 5, cells := 0, slots := 0, locals := 114 }) hC hI (c_X12_book hC.2.2.1 e2) mV_X12_book q_1184 ⟨rfl, rfl⟩ ⟨Nat.le_of_ble_eq_true rfl, Nat.le_of_ble_eq_true rfl⟩ fc_96 rfl (by decide) rfl hl.1 rfl (Nat.le_of_ble_eq_true rfl) dL_1326 ⟨Nat.le_refl _, Nat.le_refl _⟩) (fun H locs hI => ?_)
  exact lv_icmp_eq (tgt := 1462) hx hb dL_1329 (by decide) (fun _ => K σ2 H locs hI hv2) (fun hc => absurd rfl hc)
set_option maxHeartbeats 4000000 in
set_option maxRecDepth 100000 in
theorem lc_read {p : Program} {l : Launch} {e : Env} {s : State} {m : MethodId} {below : List Frame} {meth : Method} {c : Code} {G : fm_G} {σ : fm_M} {b L i : Nat} {xs : Nat → Int32} {H : Heap} {locs : List Loc} {ls : Array Slot} (hC : fm_C G p m c code 4 s #[Value.ref b] R_law) (hX : va_X b L xs s s.heap) (hbl : b < s.heap.size) (hbA : ¬ fm_A G b) (hi : i + 6 ≤ L) (hL : L ≤ 3072) (hI : fm_I G σ s H locs) (hv : Inv σ) (hl : lv_has ls 4 [(0, .ref b), (1, .ref (G.2.1 0)), (2, .ref (G.2.1 96)), (3, .int (nI i))])
    (K : ∀ (σ : fm_M) (H : Heap) (locs : List Loc), fm_I G σ s H locs → Inv σ → W p l e room_1 s m #[Value.ref b] below meth c H locs 600000 7302250 (lw_Z below #[Value.ref b] s) (F0 m 1462 ls [])) : W p l e room_1 s m #[Value.ref b] below meth c H locs 600000 7302250 (lw_Z below #[Value.ref b] s) (F0 m 1334 ls []) := by
  have hx := hC.1.1
  have hb := hC.1.2.1
  have hown := hC.1.2.2.2.1
  have hts := hC.1.2.2.2.2
  obtain ⟨r, σ1, σ2, e1, e2, hv2⟩ := op_read (xs (i + 1)) (xs (i + 2)) (xs (i + 3)) hv
  refine lv_aload_n hx hb dL_1334 rfl (lv_at hl 1 rfl) ?_
  refine lw_ld (k := 1) hC hX hbl hbA hi hL (by decide) hI hl (by decide) dL_1335 dL_1336 dL_1337 dL_1338 dL_1339 ?_
  refine lw_ld (k := 2) hC hX hbl hbA hi hL (by decide) hI hl (by decide) dL_1340 dL_1341 dL_1342 dL_1343 dL_1344 ?_
  refine lw_ld (k := 3) hC hX hbl hbA hi hL (by decide) hI hl (by decide) dL_1345 dL_1346 dL_1347 dL_1348 dL_1349 ?_
  refine fm_ci hI (fm_runV (As := [.int (xs (i + 1)), .int (xs (i + 2)), .int (xs (i + 3))]) (rest := []) (rm := { frames := 6, cells := 0, slots := 0, locals := 141 }) hC hI (c_X11_read hC.2.2.1 e1) mV_X11_read q_758 ⟨rfl, rfl⟩ ⟨Nat.le_of_ble_eq_true rfl, Nat.le_of_ble_eq_true rfl⟩ fc_0 rfl (by decide) rfl hl.1 rfl (Nat.le_of_ble_eq_true rfl) dL_1350 ⟨Nat.le_refl _, Nat.le_refl _⟩) (fun H locs hI => ?_)
  refine lv_aload_n hx hb dL_1353 rfl (lv_at hl 2 rfl) ?_
  refine lw_ld (k := 1) hC hX hbl hbA hi hL (by decide) hI hl (by decide) dL_1354 dL_1355 dL_1356 dL_1357 dL_1358 ?_
  refine lw_ld (k := 2) hC hX hbl hbA hi hL (by decide) hI hl (by decide) dL_1359 dL_1360 dL_1361 dL_1362 dL_1363 ?_
  refine lw_ld (k := 3) hC hX hbl hbA hi hL (by decide) hI hl (by decide) dL_1364 dL_1365 dL_1366 dL_1367 dL_1368 ?_
  refine fm_ci hI (fm_runV (As := [.int (xs (i + 1)), .int (xs (i + 2)), .int (xs (i + 3))]) (rest := [.int r]) (rm := { frames := 6, cells := 0, slots := 0, locals := 138 }) hC hI (c_X12_read hC.2.2.1 e2) mV_X12_read q_1188 ⟨rfl, rfl⟩ ⟨Nat.le_of_ble_eq_true rfl, Nat.le_of_ble_eq_true rfl⟩ fc_96 rfl (by decide) rfl hl.1 rfl (Nat.le_of_ble_eq_true rfl) dL_1369 ⟨Nat.le_refl _, Nat.le_refl _⟩) (fun H locs hI => ?_)
  exact lv_icmp_eq (tgt := 1462) hx hb dL_1372 (by decide) (fun _ => K σ2 H locs hI hv2) (fun hc => absurd rfl hc)
set_option maxHeartbeats 4000000 in
set_option maxRecDepth 100000 in
theorem lc_image {p : Program} {l : Launch} {e : Env} {s : State} {m : MethodId} {below : List Frame} {meth : Method} {c : Code} {G : fm_G} {σ : fm_M} {b L i : Nat} {xs : Nat → Int32} {H : Heap} {locs : List Loc} {ls : Array Slot} (hC : fm_C G p m c code 4 s #[Value.ref b] R_law) (hX : va_X b L xs s s.heap) (hbl : b < s.heap.size) (hbA : ¬ fm_A G b) (hi : i + 6 ≤ L) (hL : L ≤ 3072) (hI : fm_I G σ s H locs) (hv : Inv σ) (hl : lv_has ls 4 [(0, .ref b), (1, .ref (G.2.1 0)), (2, .ref (G.2.1 96)), (3, .int (nI i))])
    (K : ∀ (σ : fm_M) (H : Heap) (locs : List Loc), fm_I G σ s H locs → Inv σ → W p l e room_1 s m #[Value.ref b] below meth c H locs 600000 7302250 (lw_Z below #[Value.ref b] s) (F0 m 1462 ls [])) : W p l e room_1 s m #[Value.ref b] below meth c H locs 600000 7302250 (lw_Z below #[Value.ref b] s) (F0 m 1377 ls []) := by
  have hx := hC.1.1
  have hb := hC.1.2.1
  have hown := hC.1.2.2.2.1
  have hts := hC.1.2.2.2.2
  obtain ⟨r, σ1, σ2, e1, e2, hv2⟩ := op_image  hv
  refine lv_aload_n hx hb dL_1377 rfl (lv_at hl 1 rfl) ?_
  refine fm_ci hI (fm_runV (As := []) (rest := []) (rm := { frames := 2, cells := 0, slots := 0, locals := 44 }) hC hI (c_X11_image hC.2.2.1 e1) mV_X11_image q_766 ⟨rfl, rfl⟩ ⟨Nat.le_of_ble_eq_true rfl, Nat.le_of_ble_eq_true rfl⟩ fc_0 rfl (by decide) rfl hl.1 rfl (Nat.le_of_ble_eq_true rfl) dL_1378 ⟨Nat.le_refl _, Nat.le_refl _⟩) (fun H locs hI => ?_)
  refine lv_aload_n hx hb dL_1381 rfl (lv_at hl 2 rfl) ?_
  refine fm_ci hI (fm_runV (As := []) (rest := [.int r]) (rm := { frames := 0, cells := 0, slots := 0, locals := 0 }) hC hI (c_X12_image hC.2.2.1 e2) mV_X12_image q_1196 ⟨rfl, rfl⟩ ⟨Nat.le_of_ble_eq_true rfl, Nat.le_of_ble_eq_true rfl⟩ fc_96 rfl (by decide) rfl hl.1 rfl (Nat.le_of_ble_eq_true rfl) dL_1382 ⟨Nat.le_refl _, Nat.le_refl _⟩) (fun H locs hI => ?_)
  exact lv_icmp_eq (tgt := 1462) hx hb dL_1385 (by decide) (fun _ => K σ2 H locs hI hv2) (fun hc => absurd rfl hc)
set_option maxHeartbeats 4000000 in
set_option maxRecDepth 100000 in
theorem lc_undo {p : Program} {l : Launch} {e : Env} {s : State} {m : MethodId} {below : List Frame} {meth : Method} {c : Code} {G : fm_G} {σ : fm_M} {b L i : Nat} {xs : Nat → Int32} {H : Heap} {locs : List Loc} {ls : Array Slot} (hC : fm_C G p m c code 4 s #[Value.ref b] R_law) (hX : va_X b L xs s s.heap) (hbl : b < s.heap.size) (hbA : ¬ fm_A G b) (hi : i + 6 ≤ L) (hL : L ≤ 3072) (hI : fm_I G σ s H locs) (hv : Inv σ) (hl : lv_has ls 4 [(0, .ref b), (1, .ref (G.2.1 0)), (2, .ref (G.2.1 96)), (3, .int (nI i))])
    (K : ∀ (σ : fm_M) (H : Heap) (locs : List Loc), fm_I G σ s H locs → Inv σ → W p l e room_1 s m #[Value.ref b] below meth c H locs 600000 7302250 (lw_Z below #[Value.ref b] s) (F0 m 1462 ls [])) : W p l e room_1 s m #[Value.ref b] below meth c H locs 600000 7302250 (lw_Z below #[Value.ref b] s) (F0 m 1390 ls []) := by
  have hx := hC.1.1
  have hb := hC.1.2.1
  have hown := hC.1.2.2.2.1
  have hts := hC.1.2.2.2.2
  obtain ⟨r, σ1, σ2, e1, e2, hv2⟩ := op_undo  hv
  refine lv_aload_n hx hb dL_1390 rfl (lv_at hl 1 rfl) ?_
  refine fm_ci hI (fm_runV (As := []) (rest := []) (rm := { frames := 2, cells := 0, slots := 0, locals := 44 }) hC hI (c_X11_undo hC.2.2.1 e1) mV_X11_undo q_770 ⟨rfl, rfl⟩ ⟨Nat.le_of_ble_eq_true rfl, Nat.le_of_ble_eq_true rfl⟩ fc_0 rfl (by decide) rfl hl.1 rfl (Nat.le_of_ble_eq_true rfl) dL_1391 ⟨Nat.le_refl _, Nat.le_refl _⟩) (fun H locs hI => ?_)
  refine lv_aload_n hx hb dL_1394 rfl (lv_at hl 2 rfl) ?_
  refine fm_ci hI (fm_runV (As := []) (rest := [.int r]) (rm := { frames := 1, cells := 0, slots := 0, locals := 21 }) hC hI (c_X12_undo hC.2.2.1 e2) mV_X12_undo q_1200 ⟨rfl, rfl⟩ ⟨Nat.le_of_ble_eq_true rfl, Nat.le_of_ble_eq_true rfl⟩ fc_96 rfl (by decide) rfl hl.1 rfl (Nat.le_of_ble_eq_true rfl) dL_1395 ⟨Nat.le_refl _, Nat.le_refl _⟩) (fun H locs hI => ?_)
  exact lv_icmp_eq (tgt := 1462) hx hb dL_1398 (by decide) (fun _ => K σ2 H locs hI hv2) (fun hc => absurd rfl hc)
set_option maxHeartbeats 4000000 in
set_option maxRecDepth 100000 in
theorem lc_tear {p : Program} {l : Launch} {e : Env} {s : State} {m : MethodId} {below : List Frame} {meth : Method} {c : Code} {G : fm_G} {σ : fm_M} {b L i : Nat} {xs : Nat → Int32} {H : Heap} {locs : List Loc} {ls : Array Slot} (hC : fm_C G p m c code 4 s #[Value.ref b] R_law) (hX : va_X b L xs s s.heap) (hbl : b < s.heap.size) (hbA : ¬ fm_A G b) (hi : i + 6 ≤ L) (hL : L ≤ 3072) (hI : fm_I G σ s H locs) (hv : Inv σ) (hl : lv_has ls 4 [(0, .ref b), (1, .ref (G.2.1 0)), (2, .ref (G.2.1 96)), (3, .int (nI i))])
    (K : ∀ (σ : fm_M) (H : Heap) (locs : List Loc), fm_I G σ s H locs → Inv σ → W p l e room_1 s m #[Value.ref b] below meth c H locs 600000 7302250 (lw_Z below #[Value.ref b] s) (F0 m 1462 ls [])) : W p l e room_1 s m #[Value.ref b] below meth c H locs 600000 7302250 (lw_Z below #[Value.ref b] s) (F0 m 1403 ls []) := by
  have hx := hC.1.1
  have hb := hC.1.2.1
  have hown := hC.1.2.2.2.1
  have hts := hC.1.2.2.2.2
  obtain ⟨r, σ1, σ2, e1, e2, hv2⟩ := op_tear  hv
  refine lv_aload_n hx hb dL_1403 rfl (lv_at hl 1 rfl) ?_
  refine fm_ci hI (fm_runV (As := []) (rest := []) (rm := { frames := 0, cells := 0, slots := 0, locals := 0 }) hC hI (c_X11_tear hC.2.2.1 e1) mV_X11_tear q_774 ⟨rfl, rfl⟩ ⟨Nat.le_of_ble_eq_true rfl, Nat.le_of_ble_eq_true rfl⟩ fc_0 rfl (by decide) rfl hl.1 rfl (Nat.le_of_ble_eq_true rfl) dL_1404 ⟨Nat.le_refl _, Nat.le_refl _⟩) (fun H locs hI => ?_)
  refine lv_aload_n hx hb dL_1407 rfl (lv_at hl 2 rfl) ?_
  refine fm_ci hI (fm_runV (As := []) (rest := [.int r]) (rm := { frames := 0, cells := 0, slots := 0, locals := 0 }) hC hI (c_X12_tear hC.2.2.1 e2) mV_X12_tear q_1204 ⟨rfl, rfl⟩ ⟨Nat.le_of_ble_eq_true rfl, Nat.le_of_ble_eq_true rfl⟩ fc_96 rfl (by decide) rfl hl.1 rfl (Nat.le_of_ble_eq_true rfl) dL_1408 ⟨Nat.le_refl _, Nat.le_refl _⟩) (fun H locs hI => ?_)
  exact lv_icmp_eq (tgt := 1462) hx hb dL_1411 (by decide) (fun _ => K σ2 H locs hI hv2) (fun hc => absurd rfl hc)
set_option maxHeartbeats 4000000 in
set_option maxRecDepth 100000 in
theorem lc_count {p : Program} {l : Launch} {e : Env} {s : State} {m : MethodId} {below : List Frame} {meth : Method} {c : Code} {G : fm_G} {σ : fm_M} {b L i : Nat} {xs : Nat → Int32} {H : Heap} {locs : List Loc} {ls : Array Slot} (hC : fm_C G p m c code 4 s #[Value.ref b] R_law) (hX : va_X b L xs s s.heap) (hbl : b < s.heap.size) (hbA : ¬ fm_A G b) (hi : i + 6 ≤ L) (hL : L ≤ 3072) (hI : fm_I G σ s H locs) (hv : Inv σ) (hl : lv_has ls 4 [(0, .ref b), (1, .ref (G.2.1 0)), (2, .ref (G.2.1 96)), (3, .int (nI i))])
    (K : ∀ (σ : fm_M) (H : Heap) (locs : List Loc), fm_I G σ s H locs → Inv σ → W p l e room_1 s m #[Value.ref b] below meth c H locs 600000 7302250 (lw_Z below #[Value.ref b] s) (F0 m 1462 ls [])) : W p l e room_1 s m #[Value.ref b] below meth c H locs 600000 7302250 (lw_Z below #[Value.ref b] s) (F0 m 1416 ls []) := by
  have hx := hC.1.1
  have hb := hC.1.2.1
  have hown := hC.1.2.2.2.1
  have hts := hC.1.2.2.2.2
  obtain ⟨r, σ1, σ2, e1, e2, hv2⟩ := op_count (xs (i + 1)) hv
  refine lv_aload_n hx hb dL_1416 rfl (lv_at hl 1 rfl) ?_
  refine lw_ld (k := 1) hC hX hbl hbA hi hL (by decide) hI hl (by decide) dL_1417 dL_1418 dL_1419 dL_1420 dL_1421 ?_
  refine fm_ci hI (fm_runV (As := [.int (xs (i + 1))]) (rest := []) (rm := { frames := 2, cells := 0, slots := 0, locals := 44 }) hC hI (c_X11_count hC.2.2.1 e1) mV_X11_count q_778 ⟨rfl, rfl⟩ ⟨Nat.le_of_ble_eq_true rfl, Nat.le_of_ble_eq_true rfl⟩ fc_0 rfl (by decide) rfl hl.1 rfl (Nat.le_of_ble_eq_true rfl) dL_1422 ⟨Nat.le_refl _, Nat.le_refl _⟩) (fun H locs hI => ?_)
  refine lv_aload_n hx hb dL_1425 rfl (lv_at hl 2 rfl) ?_
  refine lw_ld (k := 1) hC hX hbl hbA hi hL (by decide) hI hl (by decide) dL_1426 dL_1427 dL_1428 dL_1429 dL_1430 ?_
  refine fm_ci hI (fm_runV (As := [.int (xs (i + 1))]) (rest := [.int r]) (rm := { frames := 2, cells := 0, slots := 0, locals := 44 }) hC hI (c_X12_count hC.2.2.1 e2) mV_X12_count q_1208 ⟨rfl, rfl⟩ ⟨Nat.le_of_ble_eq_true rfl, Nat.le_of_ble_eq_true rfl⟩ fc_96 rfl (by decide) rfl hl.1 rfl (Nat.le_of_ble_eq_true rfl) dL_1431 ⟨Nat.le_refl _, Nat.le_refl _⟩) (fun H locs hI => ?_)
  exact lv_icmp_eq (tgt := 1462) hx hb dL_1434 (by decide) (fun _ => K σ2 H locs hI hv2) (fun hc => absurd rfl hc)
set_option maxHeartbeats 4000000 in
set_option maxRecDepth 100000 in
theorem lc_status {p : Program} {l : Launch} {e : Env} {s : State} {m : MethodId} {below : List Frame} {meth : Method} {c : Code} {G : fm_G} {σ : fm_M} {b L i : Nat} {xs : Nat → Int32} {H : Heap} {locs : List Loc} {ls : Array Slot} (hC : fm_C G p m c code 4 s #[Value.ref b] R_law) (hX : va_X b L xs s s.heap) (hbl : b < s.heap.size) (hbA : ¬ fm_A G b) (hi : i + 6 ≤ L) (hL : L ≤ 3072) (hI : fm_I G σ s H locs) (hv : Inv σ) (hl : lv_has ls 4 [(0, .ref b), (1, .ref (G.2.1 0)), (2, .ref (G.2.1 96)), (3, .int (nI i))])
    (K : ∀ (σ : fm_M) (H : Heap) (locs : List Loc), fm_I G σ s H locs → Inv σ → W p l e room_1 s m #[Value.ref b] below meth c H locs 600000 7302250 (lw_Z below #[Value.ref b] s) (F0 m 1462 ls [])) : W p l e room_1 s m #[Value.ref b] below meth c H locs 600000 7302250 (lw_Z below #[Value.ref b] s) (F0 m 1439 ls []) := by
  have hx := hC.1.1
  have hb := hC.1.2.1
  have hown := hC.1.2.2.2.1
  have hts := hC.1.2.2.2.2
  obtain ⟨r, σ1, σ2, e1, e2, hv2⟩ := op_status (xs (i + 1)) hv
  refine lv_aload_n hx hb dL_1439 rfl (lv_at hl 1 rfl) ?_
  refine lw_ld (k := 1) hC hX hbl hbA hi hL (by decide) hI hl (by decide) dL_1440 dL_1441 dL_1442 dL_1443 dL_1444 ?_
  refine fm_ci hI (fm_runV (As := [.int (xs (i + 1))]) (rest := []) (rm := { frames := 2, cells := 0, slots := 0, locals := 44 }) hC hI (c_X11_status hC.2.2.1 e1) mV_X11_status q_788 ⟨rfl, rfl⟩ ⟨Nat.le_of_ble_eq_true rfl, Nat.le_of_ble_eq_true rfl⟩ fc_0 rfl (by decide) rfl hl.1 rfl (Nat.le_of_ble_eq_true rfl) dL_1445 ⟨Nat.le_refl _, Nat.le_refl _⟩) (fun H locs hI => ?_)
  refine lv_aload_n hx hb dL_1448 rfl (lv_at hl 2 rfl) ?_
  refine lw_ld (k := 1) hC hX hbl hbA hi hL (by decide) hI hl (by decide) dL_1449 dL_1450 dL_1451 dL_1452 dL_1453 ?_
  refine fm_ci hI (fm_runV (As := [.int (xs (i + 1))]) (rest := [.int r]) (rm := { frames := 1, cells := 0, slots := 0, locals := 22 }) hC hI (c_X12_status hC.2.2.1 e2) mV_X12_status q_1215 ⟨rfl, rfl⟩ ⟨Nat.le_of_ble_eq_true rfl, Nat.le_of_ble_eq_true rfl⟩ fc_96 rfl (by decide) rfl hl.1 rfl (Nat.le_of_ble_eq_true rfl) dL_1454 ⟨Nat.le_refl _, Nat.le_refl _⟩) (fun H locs hI => ?_)
  exact lv_icmp_eq (tgt := 1462) hx hb dL_1457 (by decide) (fun _ => K σ2 H locs hI hv2) (fun hc => absurd rfl hc)
