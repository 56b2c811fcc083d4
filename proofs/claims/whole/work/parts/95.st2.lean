set_option maxHeartbeats 4000000 in
set_option maxRecDepth 100000 in
/-- THE LAW, from its entry -/
theorem whole_start {p : Program} {e : Env} {s : State} {m : MethodId} {below : List Frame} {meth : Method} {c : Code} (l : Launch) (hflags : l.flags = flags0) {b L : Nat} {xs : Nat → Int32} (hL : L ≤ 3072) (C0 : lw_At p s m meth c b L xs) : W p l e room_1 s m #[Value.ref b] below meth c s.heap [] 0 0 (lw_Z below #[Value.ref b] s) (entryFrame m ([Value.ref b] : List Value).toArray 4) := by
  obtain ⟨hx, hb, hr, hml, hown, hts, hX, hbl, hlocks, hgv⟩ := C0
  have htf : ∀ w ∈ fm_tb, w.before #[Value.ref b] s = true := fun w h => hts w (List.mem_filter.mp h).1
  have hN := st_N hts
  obtain ⟨D, hD0⟩ := st_D htf
  obtain ⟨kA, hK⟩ := st_K htf hN.2.1 hD0
  obtain ⟨adK, adV, hXX⟩ := st_X hts hgv
  have hC : cn_C D kA p m c code 4 s #[Value.ref b] R_law := ⟨⟨hx, hb, hml, hown, htf⟩, hK, hN⟩
  have hI : cn_I D (fun q : Nat => s.heap.size ≤ q) [] s s.heap [] := ⟨fun k q h => by simp at h, ⟨fun i j p q h => by simp at h, fun k q h => by simp at h⟩, va_S.rf, fun _ h => h⟩
  have hl := lv_entry ([.ref b]) (n := 4) (Nat.le_of_ble_eq_true rfl)
  rw [lg_entry_eq]
  generalize (lg_sl ([.ref b]) ++ List.replicate (4 - (lg_sl ([.ref b])).length) Slot.unset).toArray = ls at hl ⊢
  have hl : lv_has ls 4 [(0, .ref b)] := hl
  refine cn_new hC hI cf_X11 q_21 (Nat.le_of_ble_eq_true rfl) (Nat.le_of_ble_eq_true rfl) dL_0 (fun q0 H hI => ?_)
  refine lv_dup hx hb dL_3 rfl ?_
  refine cn_ret (ws := []) (post := w_X11 D kA q0) hI (cn_runI (ws := []) (As := []) (rest := [.ref q0]) hC hI (c_X11_init q0 H.size) mc_X11_init q_23 ⟨rfl, rfl⟩ ⟨Nat.le_of_ble_eq_true rfl, Nat.le_of_ble_eq_true rfl⟩ rfl hl.1 rfl (Nat.le_of_ble_eq_true rfl) dL_4 ⟨Nat.le_of_ble_eq_true rfl, Nat.le_of_ble_eq_true rfl⟩) (fun w1 H locs h1 hI => ?_)
  refine lv_astore_n (lv' := [(1, .ref q0), (0, .ref b)]) hx hb dL_7 rfl hl (by decide) rfl (fun ls hl => ?_)
  refine cn_new hC hI cf_X12 q_792 (Nat.le_of_ble_eq_true rfl) (Nat.le_of_ble_eq_true rfl) dL_8 (fun q1 H hI => ?_)
  refine lv_dup hx hb dL_11 rfl ?_
  refine cn_ret (post := w_X12 D kA q1) hI (cn_runI (As := []) (rest := [.ref q1]) hC hI (c_X12_init q1 H.size) mc_X12_init q_794 ⟨rfl, rfl⟩ ⟨Nat.le_of_ble_eq_true rfl, Nat.le_of_ble_eq_true rfl⟩ rfl hl.1 rfl (Nat.le_of_ble_eq_true rfl) dL_12 ⟨Nat.le_of_ble_eq_true rfl, Nat.le_of_ble_eq_true rfl⟩) (fun w2 H9 locs9 h2 hI9 => ?_)
  refine lv_astore_n (lv' := [(2, .ref q1), (1, .ref q0), (0, .ref b)]) hx hb dL_15 rfl hl (by decide) rfl (fun ls hl => ?_)
  refine lv_iconst (v := (0 : Int32)) hx hb dL_16 (by decide) ?_
  refine lv_istore_n (lv' := [(3, .int (0 : Int32)), (2, .ref q1), (1, .ref q0), (0, .ref b)]) hx hb dL_17 rfl hl (by decide) rfl (fun ls hl => ?_)
  obtain ⟨a1, e1, p1⟩ := h1
  obtain ⟨a2, e2, p2⟩ := h2
  subst e1
  subst e2
  obtain ⟨hP, hD, hS, hA⟩ := hI9
  have hP : va_P D vwCl (w1 ++ w2) H9 := hP
  have hD : va_D (fun q : Nat => s.heap.size ≤ q) (w1 ++ w2) := hD
  have hmap := o_map p1 p2
  have hAq : ∀ q, fm_A (D, oA a1 a2, kA, adK, adV) q → s.heap.size ≤ q := by
    rintro q ⟨i, hi, hq⟩
    obtain ⟨e9, he⟩ := o_at hmap hi
    rw [hq]
    exact hD.2 i _ he
  have hJ : fm_J (D, oA a1 a2, kA, adK, adV) := by
    intro i j hi hj hij
    obtain ⟨e8, he⟩ := o_at hmap hi
    obtain ⟨e9, he'⟩ := o_at hmap hj
    exact hD.1 i j _ _ he he' hij
  refine W.widen (k := 600000) (n := 7302250) (Nat.le_of_ble_eq_true rfl) (Nat.le_of_ble_eq_true rfl) ?_
  refine va_forget (fun q hq => hS.2.2 q hq) ?_
  have hl9 : lv_has ls 4 [(0, .ref b), (1, .ref (oA a1 a2 0)), (2, .ref (oA a1 a2 96)), (3, .int (nI 0))] := lv_sub hl [3, 2, 1, 0] rfl
  exact law_loop (G := (D, oA a1 a2, kA, adK, adV)) ⟨⟨hx, hb, hml, hown, htf⟩, hK, hJ, hXX D (oA a1 a2) kA hAq⟩ hX hbl hAq hr hlocks hL (L + 1) 0 (by omega) s0 H9 [] ls ⟨o_P p1 p2 hP, ⟨hS.1, fun q g1 g2 => hS.2.1 q g1 (Nat.not_le.mpr g1), fun _ h => by cases h⟩⟩ s0_inv (by omega) hl9
