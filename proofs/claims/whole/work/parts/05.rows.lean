/-! ROWS over the flat memory: an instruction, a row -/
def fm_st (G : fm_G) (σ : fm_M) (U : State) : Prop := va_P G.1 vwCl (fm_wl G σ) U.heap ∧ va_K G.1 vwCl (fm_ty G) U ∧ fm_X G U
def fm_en (G : fm_G) (σ : fm_M) (U : State) : Prop := va_P G.1 vwCl (fm_wl G σ) U.heap
def fm_Qi (G : fm_G) (o : Int32 × fm_M) : Array Value → State → Outcome → State → Prop := va_Qi (fun (r : Int32) (_ : Unit) => r = o.1) (fun _ t => fm_en G o.2 t) (fm_A G)
def fm_Ql (G : fm_G) (o : Int64 × fm_M) : Array Value → State → Outcome → State → Prop := va_Ql (fun (r : Int64) (_ : Unit) => r = o.1) (fun _ t => fm_en G o.2 t) (fm_A G)
def fm_Qv (G : fm_G) (o : Unit × fm_M) : Array Value → State → Outcome → State → Prop := va_Qv (fun (_ : Unit) => True) (fun _ t => fm_en G o.2 t) (fm_A G)
def fm_Qt (G : fm_G) (o : Nat × fm_M) : Array Value → State → Outcome → State → Prop := va_Qr (fun (_ : Unit) => True) (fun _ a t => a = G.2.2.2.1 o.1 ∧ fm_en G o.2 t) (fm_A G)
def fm_Qr (G : fm_G) (o : Nat × fm_M) : Array Value → State → Outcome → State → Prop := va_Qr (fun (_ : Unit) => True) (fun _ a t => a = G.2.1 o.1 ∧ fm_en G o.2 t) (fm_A G)
abbrev fm_w (y : MethodName) (bytes : ByteArray) (maxL : Nat) (ret : Option FieldType) : List Cond := Cond.code y bytes maxL ret :: fm_tb
/-- a field that is read: its class's tables -/
def fm_fd (C : String) (T : u_T) (N ci k t : Nat) : Prop := vwCl[ci]? = some (C, T, N) ∧ (∀ w ∈ u_ws C T N, w ∈ fm_tb) ∧ k < N ∧ (fm_fk ci)[k]? = some t ∧ ci < 13
/-- a field that is written -/
def fm_fp (C : String) (T : u_T) (N ci k t : Nat) (ty0 : Nat → FieldType) (ty : FieldType) : Prop := fm_fd C T N ci k t ∧ (∀ k, k < N → parseFieldDescriptor (T k).2.2.1 = some (ty0 k)) ∧ (∀ a, a < N → ∀ b, b < N → a ≠ b → (T a).2.1 ≠ (T b).2.1) ∧ (T k).2.2.2 = false ∧ parseFieldDescriptor (T k).2.2.1 = some ty
/-- a method that is called on an object of its own class; a static one -/
def fm_mV (C : String) (y : MethodName) (bytes : ByteArray) (maxL : Nat) (ret : Option FieldType) (n : Nat) : Prop := Cond.instanceMethod y ∈ fm_tb ∧ Cond.selects C y y ∈ fm_tb ∧ Cond.initialized C ∈ fm_tb ∧ Cond.code y bytes maxL ret ∈ fm_tb ∧ (y.cls = C ∧ y.cls ≠ "java/lang/invoke/MethodHandle" ∧ y.cls ≠ "java/lang/invoke/VarHandle" ∧ (parseMethodDescriptor y.desc).map (fun d => d.parameters.length) = some n)
def fm_mS (y : MethodName) (bytes : ByteArray) (maxL : Nat) (ret : Option FieldType) (n : Nat) : Prop := Cond.static y ∈ fm_tb ∧ Cond.initialized y.cls ∈ fm_tb ∧ Cond.code y bytes maxL ret ∈ fm_tb ∧ (y.cls ≠ "java/lang/invoke/MethodHandle" ∧ y.cls ≠ "java/lang/invoke/VarHandle" ∧ (parseMethodDescriptor y.desc).map (fun d => d.parameters.length) = some n)
theorem fm_goodW {own C : String} {index : Nat} {y : MethodName} {bytes : ByteArray} {maxL n : Nat} {ret : Option FieldType} (hm : fm_mV C y bytes maxL ret n) (hl : Cond.methodLink own index y ∈ fm_tb) : GoodIn fm_tb (wsV own index C y (fm_w y bytes maxL ret)) := by
  intro w hw
  unfold wsV at hw
  rcases List.mem_append.mp hw with h | h
  · simp only [List.mem_cons, List.not_mem_nil, or_false] at h
    rcases h with rfl | rfl | rfl | rfl
    · exact fm_good _ hl
    · exact fm_good _ hm.1
    · exact fm_good _ hm.2.1
    · exact fm_good _ hm.2.2.1
  · rcases List.mem_cons.mp h with rfl | h
    · exact fm_good _ hm.2.2.2.1
    · exact fm_good _ h
theorem fm_goodC {y : MethodName} {bytes : ByteArray} {maxL : Nat} {ret : Option FieldType} (hc : Cond.code y bytes maxL ret ∈ fm_tb) : GoodIn fm_tb (fm_w y bytes maxL ret) := fun w h => (List.mem_cons.mp h).elim (fun e => by rw [e]; exact fm_good _ hc) (fun h => fm_good _ h)
theorem fm_lt {i c : Nat} (h : fm_ct i = c) (hc : c < 99) : i < 110 := by
  rcases Nat.lt_or_ge i 110 with h1 | h1
  · exact h1
  · exfalso
    have h2 : fm_ct i = 99 := by
      unfold fm_ct
      rw [List.getD_eq_getElem?_getD, List.getElem?_eq_none (Nat.le_trans (show fm_ctL.length ≤ 110 by decide +kernel) h1)]
      rfl
    omega
section FM
variable {p : Program} {l : Launch} {e : Env} {R : Room} {s : State} {m : MethodId} {args : Array Value} {below : List Frame} {meth : Method} {c : Code} {H : Heap} {locs : List Loc} {cells slots : Nat} {Q : State → Prop}
variable {cc : ByteArray} {pc nL : Nat} {ls : Array Slot} {rest : List Value} {G : fm_G} {σ : fm_M} {own : String}
/-- what stays fixed in a method's walk -/
def fm_C (G : fm_G) (p : Program) (m : MethodId) (c : Code) (cc : ByteArray) (nL : Nat) (s : State) (args : Array Value) (own : String) : Prop := CallFix p m c cc nL s args fm_tb own ∧ va_K G.1 vwCl (fm_ty G) s ∧ fm_J G ∧ fm_X G s
/-- what moves: the memory, and what has been written since the method's entry -/
def fm_I (G : fm_G) (σ : fm_M) (s : State) (H : Heap) (locs : List Loc) : Prop := va_P G.1 vwCl (fm_wl G σ) H ∧ va_S (fm_A G) s.heap H locs
theorem fm_get {C : String} {T : u_T} {N ci index i k t : Nat} (hC : fm_C G p m c cc nL s args own) (hI : fm_I G σ s H locs) (hf : fm_fd C T N ci k t) (hc : fm_ct i = ci) (hl : Cond.fieldLink own index (T k).1 (T k).2.1 (T k).2.2.1 ∈ fm_tb) (hdg : decode cc pc = .ok (.getfield index, 3))
    (kk : W p l e R s m args below meth c H locs cells slots Q (F0 m (pc + 3) ls (fm_fv G (σ.1 i) (σ.2 i) i t k :: rest))) : W p l e R s m args below meth c H locs cells slots Q (F0 m pc ls (.ref (G.2.1 i) :: rest)) := by
  obtain ⟨⟨hx, hb, hml, hown, hts⟩, hK, hJ, hXX⟩ := hC
  obtain ⟨h1, h2, h3, h4, h5⟩ := hf
  have hi : i < 110 := fm_lt hc (by omega)
  exact va_get hx hb hts h2 hown hK hI.1 i (by rw [fm_at hi, fm_obj hc h5]) h1 k h3 (hts _ hl) (fun _ h9 => h9) (fm_fs_at h4) hdg kk
theorem fm_gi {C : String} {T : u_T} {N ci index i k : Nat} (hC : fm_C G p m c cc nL s args own) (hI : fm_I G σ s H locs) (hf : fm_fd C T N ci k 0) (hc : fm_ct i = ci) (hl : Cond.fieldLink own index (T k).1 (T k).2.1 (T k).2.2.1 ∈ fm_tb) (hdg : decode cc pc = .ok (.getfield index, 3))
    (kk : W p l e R s m args below meth c H locs cells slots Q (F0 m (pc + 3) ls (.int (σ.1 i k) :: rest))) : W p l e R s m args below meth c H locs cells slots Q (F0 m pc ls (.ref (G.2.1 i) :: rest)) := fm_get hC hI hf hc hl hdg kk
theorem fm_gl {C : String} {T : u_T} {N ci index i k : Nat} (hC : fm_C G p m c cc nL s args own) (hI : fm_I G σ s H locs) (hf : fm_fd C T N ci k 1) (hc : fm_ct i = ci) (hl : Cond.fieldLink own index (T k).1 (T k).2.1 (T k).2.2.1 ∈ fm_tb) (hdg : decode cc pc = .ok (.getfield index, 3))
    (kk : W p l e R s m args below meth c H locs cells slots Q (F0 m (pc + 3) ls (.long (σ.2 i k) :: rest))) : W p l e R s m args below meth c H locs cells slots Q (F0 m pc ls (.ref (G.2.1 i) :: rest)) := fm_get hC hI hf hc hl hdg kk
theorem fm_gr {C : String} {T : u_T} {N ci index i k j : Nat} (hC : fm_C G p m c cc nL s args own) (hI : fm_I G σ s H locs) (hf : fm_fd C T N ci k 2) (hc : fm_ct i = ci) (hj : fm_rf i k = j) (hl : Cond.fieldLink own index (T k).1 (T k).2.1 (T k).2.2.1 ∈ fm_tb) (hdg : decode cc pc = .ok (.getfield index, 3))
    (kk : W p l e R s m args below meth c H locs cells slots Q (F0 m (pc + 3) ls (.ref (G.2.1 j) :: rest))) : W p l e R s m args below meth c H locs cells slots Q (F0 m pc ls (.ref (G.2.1 i) :: rest)) := by
  subst hj
  exact fm_get hC hI hf hc hl hdg kk
theorem fm_pi {C : String} {T : u_T} {N ci index i k : Nat} {ty0 : Nat → FieldType} {ty : FieldType} {v : Int32} {σ' : fm_M} (hC : fm_C G p m c cc nL s args own) (hI : fm_I G σ s H locs) (hf : fm_fp C T N ci k 0 ty0 ty) (hc : fm_ct i = ci) (hn : narrow ty (.int v) = .int v ∧ fits ty (.int v) = true) (he : σ' = fm_sI σ i k v) (hl : Cond.fieldLink own index (T k).1 (T k).2.1 (T k).2.2.1 ∈ fm_tb) (hdg : decode cc pc = .ok (.putfield index, 3))
    (kk : ∀ (H1 : Heap) (locs1 : List Loc), fm_I G σ' s H1 locs1 → W p l e R s m args below meth c H1 locs1 cells slots Q (F0 m (pc + 3) ls rest)) : W p l e R s m args below meth c H locs cells slots Q (F0 m pc ls (.int v :: .ref (G.2.1 i) :: rest)) := by
  obtain ⟨⟨hx, hb, hml, hown, hts⟩, hK, hJ, hXX⟩ := hC
  obtain ⟨⟨h1, h2, h3, h4, h5⟩, h6, h7, h8, h9⟩ := hf
  have hi : i < 110 := fm_lt hc (by omega)
  refine va_put hx hb hts h2 ty0 h6 h7 hown hK hI.1 (fm_D hJ σ) hI.2 i (by rw [fm_at hi, fm_obj hc h5]) h1 k h3 (hts _ hl) (fun _ h => h) h8 h9 hn.1 hn.2 (by rw [fm_fs_len]; exact (List.getElem?_eq_some_iff.mp h4).1) hdg (fun H1 locs1 hP _ hS => kk H1 locs1 ⟨?_, hS⟩)
  rw [fm_fs_setI h4, fm_set (σ' := σ') hi (by rw [he, fm_obj hc h5, fm_sI_self]; rfl) (by rw [he]; exact fm_oI)] at hP
  exact hP
theorem fm_pl {C : String} {T : u_T} {N ci index i k : Nat} {ty0 : Nat → FieldType} {v : Int64} {σ' : fm_M} (hC : fm_C G p m c cc nL s args own) (hI : fm_I G σ s H locs) (hf : fm_fp C T N ci k 1 ty0 .long) (hc : fm_ct i = ci) (he : σ' = fm_sL σ i k v) (hl : Cond.fieldLink own index (T k).1 (T k).2.1 (T k).2.2.1 ∈ fm_tb) (hdg : decode cc pc = .ok (.putfield index, 3))
    (kk : ∀ (H1 : Heap) (locs1 : List Loc), fm_I G σ' s H1 locs1 → W p l e R s m args below meth c H1 locs1 cells slots Q (F0 m (pc + 3) ls rest)) : W p l e R s m args below meth c H locs cells slots Q (F0 m pc ls (.long v :: .ref (G.2.1 i) :: rest)) := by
  obtain ⟨⟨hx, hb, hml, hown, hts⟩, hK, hJ, hXX⟩ := hC
  obtain ⟨⟨h1, h2, h3, h4, h5⟩, h6, h7, h8, h9⟩ := hf
  have hi : i < 110 := fm_lt hc (by omega)
  refine va_put hx hb hts h2 ty0 h6 h7 hown hK hI.1 (fm_D hJ σ) hI.2 i (by rw [fm_at hi, fm_obj hc h5]) h1 k h3 (hts _ hl) (fun _ h => h) h8 h9 rfl rfl (by rw [fm_fs_len]; exact (List.getElem?_eq_some_iff.mp h4).1) hdg (fun H1 locs1 hP _ hS => kk H1 locs1 ⟨?_, hS⟩)
  rw [fm_fs_setL h4, fm_set (σ' := σ') hi (by rw [he, fm_obj hc h5, fm_sL_self]; rfl) (by rw [he]; exact fm_oL)] at hP
  exact hP
theorem fm_iald {i n : Nat} {x : Int32} (hC : fm_C G p m c cc nL s args own) (hI : fm_I G σ s H locs) (hc : fm_ct i = 14) (hn : fm_ln i = n) (hin : fm_in1 x n = true) (hdg : decode cc pc = .ok (.iaload, 1))
    (kk : W p l e R s m args below meth c H locs cells slots Q (F0 m (pc + 1) ls (.int (σ.1 i x.toNatClampNeg) :: rest))) : W p l e R s m args below meth c H locs cells slots Q (F0 m pc ls (.int x :: .ref (G.2.1 i) :: rest)) := by
  obtain ⟨⟨hx, hb, hml, hown, hts⟩, hK, hJ, hXX⟩ := hC
  subst hn
  have hi : i < 110 := fm_lt hc (by omega)
  exact va_iald hx hb hK hI.1 i 1 (by rw [fm_at hi, fm_arI hc (by decide) (by decide)]) rfl (fm_inE hin) hdg kk
theorem fm_cald {i n : Nat} {x : Int32} (hC : fm_C G p m c cc nL s args own) (hI : fm_I G σ s H locs) (hc : fm_ct i = 13) (hn : fm_ln i = n) (hin : fm_in1 x n = true) (hdg : decode cc pc = .ok (.caload, 1))
    (kk : W p l e R s m args below meth c H locs cells slots Q (F0 m (pc + 1) ls (.int (σ.1 i x.toNatClampNeg) :: rest))) : W p l e R s m args below meth c H locs cells slots Q (F0 m pc ls (.int x :: .ref (G.2.1 i) :: rest)) := by
  obtain ⟨⟨hx, hb, hml, hown, hts⟩, hK, hJ, hXX⟩ := hC
  subst hn
  have hi : i < 110 := fm_lt hc (by omega)
  exact va_cald hx hb hK hI.1 i 0 (by rw [fm_at hi, fm_arI hc (by decide) (by decide)]) rfl (fm_inE hin) hdg kk
theorem fm_lald {i n : Nat} {x : Int32} (hC : fm_C G p m c cc nL s args own) (hI : fm_I G σ s H locs) (hc : fm_ct i = 15) (hn : fm_ln i = n) (hin : fm_in1 x n = true) (hdg : decode cc pc = .ok (.laload, 1))
    (kk : W p l e R s m args below meth c H locs cells slots Q (F0 m (pc + 1) ls (.long (σ.2 i x.toNatClampNeg) :: rest))) : W p l e R s m args below meth c H locs cells slots Q (F0 m pc ls (.int x :: .ref (G.2.1 i) :: rest)) := by
  obtain ⟨⟨hx, hb, hml, hown, hts⟩, hK, hJ, hXX⟩ := hC
  subst hn
  have hi : i < 110 := fm_lt hc (by omega)
  exact va_lald hx hb hK hI.1 i 2 (by rw [fm_at hi, fm_arL hc]) rfl (fm_inE hin) hdg kk
theorem fm_aald {i j n ci t0 : Nat} {C : String} {x : Int32} (hC : fm_C G p m c cc nL s args own) (hI : fm_I G σ s H locs) (hc : fm_ct i = ci) (h15 : 15 < ci) (h20 : ci < 20) (ht : (fm_ty G)[t0]? = some (G.2.2.1 ci, .object C)) (hn : fm_ln i = n) (hin : fm_in1 x n = true) (hj : fm_rf i x.toNatClampNeg = j) (hdg : decode cc pc = .ok (.aaload, 1))
    (kk : W p l e R s m args below meth c H locs cells slots Q (F0 m (pc + 1) ls (.ref (G.2.1 j) :: rest))) : W p l e R s m args below meth c H locs cells slots Q (F0 m pc ls (.int x :: .ref (G.2.1 i) :: rest)) := by
  obtain ⟨⟨hx, hb, hml, hown, hts⟩, hK, hJ, hXX⟩ := hC
  subst hn; subst hj
  have hi : i < 110 := fm_lt hc (by omega)
  exact va_aldq (f := fun j => some (G.2.1 (fm_rf i j))) hx hb hK hI.1 i t0 (by rw [fm_at hi, fm_arR hc h15]) ht (fm_inE hin) hdg kk
theorem fm_iast {i n : Nat} {x v : Int32} {σ' : fm_M} (hC : fm_C G p m c cc nL s args own) (hI : fm_I G σ s H locs) (hc : fm_ct i = 14) (hn : fm_ln i = n) (hin : fm_in1 x n = true) (he : σ' = fm_sI σ i x.toNatClampNeg v) (hdg : decode cc pc = .ok (.iastore, 1))
    (kk : ∀ (H1 : Heap) (locs1 : List Loc), fm_I G σ' s H1 locs1 → W p l e R s m args below meth c H1 locs1 cells slots Q (F0 m (pc + 1) ls rest)) : W p l e R s m args below meth c H locs cells slots Q (F0 m pc ls (.int v :: .int x :: .ref (G.2.1 i) :: rest)) := by
  obtain ⟨⟨hx, hb, hml, hown, hts⟩, hK, hJ, hXX⟩ := hC
  subst hn
  have hi : i < 110 := fm_lt hc (by omega)
  refine va_iast hx hb hK hI.1 (fm_D hJ σ) hI.2 i 1 (by rw [fm_at hi, fm_arI hc (by decide) (by decide)]) rfl (fm_inE hin) hdg (fun H1 locs1 hP _ hS => kk H1 locs1 ⟨?_, hS⟩)
  rw [fm_set (σ' := σ') hi (by rw [he, fm_arI hc (by decide) (by decide), fm_sI_self]) (by rw [he]; exact fm_oI)] at hP
  exact hP
theorem fm_last {i n : Nat} {x : Int32} {v : Int64} {σ' : fm_M} (hC : fm_C G p m c cc nL s args own) (hI : fm_I G σ s H locs) (hc : fm_ct i = 15) (hn : fm_ln i = n) (hin : fm_in1 x n = true) (he : σ' = fm_sL σ i x.toNatClampNeg v) (hdg : decode cc pc = .ok (.lastore, 1))
    (kk : ∀ (H1 : Heap) (locs1 : List Loc), fm_I G σ' s H1 locs1 → W p l e R s m args below meth c H1 locs1 cells slots Q (F0 m (pc + 1) ls rest)) : W p l e R s m args below meth c H locs cells slots Q (F0 m pc ls (.long v :: .int x :: .ref (G.2.1 i) :: rest)) := by
  obtain ⟨⟨hx, hb, hml, hown, hts⟩, hK, hJ, hXX⟩ := hC
  subst hn
  have hi : i < 110 := fm_lt hc (by omega)
  refine va_last hx hb hK hI.1 (fm_D hJ σ) hI.2 i 2 (by rw [fm_at hi, fm_arL hc]) rfl (fm_inE hin) hdg (fun H1 locs1 hP _ hS => kk H1 locs1 ⟨?_, hS⟩)
  rw [fm_set (σ' := σ') hi (by rw [he, fm_arL hc, fm_sL_self]) (by rw [he]; exact fm_oL)] at hP
  exact hP
theorem fm_alenI {i n ci : Nat} {v : Int32} (hC : fm_C G p m c cc nL s args own) (hI : fm_I G σ s H locs) (hc : fm_ct i = ci) (h1 : ¬ ci < 13) (h2 : ci < 15) (hn : fm_ln i = n) (hv : Int32.ofNat n = v) (hdg : decode cc pc = .ok (.arraylength, 1))
    (kk : W p l e R s m args below meth c H locs cells slots Q (F0 m (pc + 1) ls (.int v :: rest))) : W p l e R s m args below meth c H locs cells slots Q (F0 m pc ls (.ref (G.2.1 i) :: rest)) := by
  obtain ⟨⟨hx, hb, hml, hown, hts⟩, hK, hJ, hXX⟩ := hC
  subst hn
  have hi : i < 110 := fm_lt hc (by omega)
  have h3 : ci = 13 ∨ ci = 14 := by omega
  rcases h3 with rfl | rfl
  · exact va_alen hx hb hK hI.1 i 0 (by rw [fm_at hi, fm_arI hc h1 h2]) (ty := .char) rfl hv hdg kk
  · exact va_alen hx hb hK hI.1 i 1 (by rw [fm_at hi, fm_arI hc h1 h2]) (ty := .int) rfl hv hdg kk
-- calls
theorem fm_blind {av : List Value} : FrameBlind (va_Pc av (fm_st G σ)) := fun a U g mk q => ⟨q.1, q.2.1, va_K.moved (u := U) (U := U.calling g mk a) (Vm.Alike.refl U.vm) q.2.2.1, q.2.2.2.blind rfl rfl⟩
theorem fm_pre {av : List Value} (hK : va_K G.1 vwCl (fm_ty G) s) (hXX : fm_X G s) (hI : fm_I G σ s H locs) : ∀ U : State, U.heap = H → s.WarmedH U.vm → va_Pc av (fm_st G σ) av.toArray U := fun U hU hW => ⟨rfl, by rw [hU]; exact hI.1, va_K.moved hW.alike hK, hXX.to hI.2 hU hW⟩
variable {y : MethodName} {bytes : ByteArray} {maxL n index i ci N : Nat} {ret : Option FieldType} {rm : Room} {As st0 : List Value} {C : String} {T : u_T}
theorem fm_runV {Qc : Array Value → State → Outcome → State → Prop} (hC : fm_C G p m c cc nL s args own) (hI : fm_I G σ s H locs) (hM : Met l y (fm_w y bytes maxL ret) rm (va_Pc (.ref (G.2.1 i) :: As) (fm_st G σ)) Qc 0 0 (fm_A G)) (hm : fm_mV C y bytes maxL ret n) (hl : Cond.methodLink own index y ∈ fm_tb) (hrm : rm.cells = 0 ∧ rm.slots = 0) (hR : rm.frames + 1 ≤ R.frames ∧ 8 + (maxL + 11) + rm.locals ≤ R.locals) (hc : fm_ct i = ci) (hcl : vwCl[ci]? = some (C, T, N)) (hci : ci < 13)
    (hn : As.length = n) (hsz : ls.size = nL) (hst : st0 = As.reverse ++ .ref (G.2.1 i) :: rest) (hW : (rest.map fun v => v.category).sum ≤ 8) (hdg : decode cc pc = .ok (.invokevirtual index, 3)) (hf : cells ≤ R.cells ∧ slots ≤ R.slots) :
    va_Run p l e R s m args below meth c H locs cells slots 0 0 (F0 m pc ls st0) rest (Qc (Value.ref (G.2.1 i) :: As).toArray) (fm_A G) := by
  obtain ⟨hC1, hK, hJ, hXX⟩ := hC
  have hts := hC1.2.2.2.2
  have hi : i < 110 := fm_lt hc (by omega)
  exact va_runV hC1 hM (cwV n hts (fm_goodW hm hl) rfl hrm.1 hrm.2 hm.2.2.2.2 hR) ⟨fm_blind, va_recv hK hI.1 hcl (by rw [fm_at hi, fm_obj hc hci]), fm_pre hK hXX hI⟩ rfl hn hsz hst (lv_room hW) hdg hf
theorem fm_runS {Qc : Array Value → State → Outcome → State → Prop} (hC : fm_C G p m c cc nL s args own) (hI : fm_I G σ s H locs) (hM : Met l y (fm_w y bytes maxL ret) rm (va_Pc As (fm_st G σ)) Qc 0 0 (fm_A G)) (hm : fm_mS y bytes maxL ret n) (hl : Cond.methodLink own index y ∈ fm_tb) (hrm : rm.cells = 0 ∧ rm.slots = 0) (hR : rm.frames + 1 ≤ R.frames ∧ 8 + (maxL + 11) + rm.locals ≤ R.locals)
    (hn : As.length = n) (hsz : ls.size = nL) (hst : st0 = As.reverse ++ rest) (hW : (rest.map fun v => v.category).sum ≤ 8) (hdg : decode cc pc = .ok (.invokestatic index, 3)) (hf : cells ≤ R.cells ∧ slots ≤ R.slots) :
    va_Run p l e R s m args below meth c H locs cells slots 0 0 (F0 m pc ls st0) rest (Qc As.toArray) (fm_A G) := by
  obtain ⟨hC1, hK, hJ, hXX⟩ := hC
  have hts := hC1.2.2.2.2
  exact va_runS hC1 hM ⟨callB_of n hts (fm_goodC hm.2.2.1) rfl hrm.1 hrm.2 (hts _ hm.2.1) (hts _ hl) hm.2.2.2 hR, hts _ hm.1⟩ ⟨fm_blind, fm_pre hK hXX hI⟩ rfl hn hsz hst (lv_room hW) hdg hf
variable {a : Array Value}
theorem fm_ci {z : Int32} {σ' : fm_M} (hI : fm_I G σ s H locs) (hr : va_Run p l e R s m args below meth c H locs cells slots 0 0 (F0 m pc ls st0) rest (fm_Qi G (z, σ') a) (fm_A G)) (kk : ∀ (H1 : Heap) (locs1 : List Loc), fm_I G σ' s H1 locs1 → W p l e R s m args below meth c H1 locs1 cells slots Q (F0 m (pc + 3) ls (.int z :: rest))) : W p l e R s m args below meth c H locs cells slots Q (F0 m pc ls st0) :=
  va_calli hr hI.2 (fun _ _ h => h) (fun _ h => h) (fun r u t H1 locs1 ht hvm hp hB hz hk hS => by
    cases hp
    exact kk H1 locs1 ⟨by rw [← ht]; exact hB, hS⟩)
theorem fm_cl {z : Int64} {σ' : fm_M} (hI : fm_I G σ s H locs) (hr : va_Run p l e R s m args below meth c H locs cells slots 0 0 (F0 m pc ls st0) rest (fm_Ql G (z, σ') a) (fm_A G)) (kk : ∀ (H1 : Heap) (locs1 : List Loc), fm_I G σ' s H1 locs1 → W p l e R s m args below meth c H1 locs1 cells slots Q (F0 m (pc + 3) ls (.long z :: rest))) : W p l e R s m args below meth c H locs cells slots Q (F0 m pc ls st0) :=
  va_calll hr hI.2 (fun _ _ h => h) (fun _ h => h) (fun r u t H1 locs1 ht hvm hp hB hz hk hS => by
    cases hp
    exact kk H1 locs1 ⟨by rw [← ht]; exact hB, hS⟩)
theorem fm_cv {z : Unit} {σ' : fm_M} (hI : fm_I G σ s H locs) (hr : va_Run p l e R s m args below meth c H locs cells slots 0 0 (F0 m pc ls st0) rest (fm_Qv G (z, σ') a) (fm_A G)) (kk : ∀ (H1 : Heap) (locs1 : List Loc), fm_I G σ' s H1 locs1 → W p l e R s m args below meth c H1 locs1 cells slots Q (F0 m (pc + 3) ls rest)) : W p l e R s m args below meth c H locs cells slots Q (F0 m pc ls st0) :=
  va_callv hr hI.2 (fun _ _ h => h) (fun _ h => h) (fun u t H1 locs1 ht hvm hp hB hz hk hS => kk H1 locs1 ⟨by rw [← ht]; exact hB, hS⟩)
theorem fm_cr {z : Nat} {σ' : fm_M} (hI : fm_I G σ s H locs) (hr : va_Run p l e R s m args below meth c H locs cells slots 0 0 (F0 m pc ls st0) rest (fm_Qr G (z, σ') a) (fm_A G)) (kk : ∀ (H1 : Heap) (locs1 : List Loc), fm_I G σ' s H1 locs1 → W p l e R s m args below meth c H1 locs1 cells slots Q (F0 m (pc + 3) ls (.ref (G.2.1 z) :: rest))) : W p l e R s m args below meth c H locs cells slots Q (F0 m pc ls st0) :=
  va_callr hr hI.2 (fun _ _ h => h) (fun _ h => h) (fun u ra t H1 locs1 ht hvm hp hB hz hk hS => by
    obtain ⟨rfl, hB⟩ := hB
    exact kk H1 locs1 ⟨by rw [← ht]; exact hB, hS⟩)
-- ends
variable {r : Int32}
theorem fm_ri {o : Int32 × fm_M} (hC : fm_C G p m c cc nL s args own) (hI : fm_I G σ s H locs) (hr : meth.sig.returnType = some .int) (hlk : meth.locks = false) (hf : some (r, σ) = some o) (hdg : decode cc pc = .ok (.ireturn, 1)) : W p l e R s m args below meth c H locs 0 0 (MQ below (fm_Qi G o) args s 0 0 (fm_A G)) (F0 m pc ls [.int r]) := by
  cases hf
  exact W.iret hC.1.1 hC.1.2.1 hr (fun t ht hW => ⟨⟨r, (), rfl, rfl, show va_P _ _ _ _ by rw [ht]; exact hI.1⟩, hI.2.F ht⟩) hI.2.2.2 hdg hlk
theorem fm_rz {o : Int32 × fm_M} (hC : fm_C G p m c cc nL s args own) (hI : fm_I G σ s H locs) (hr : meth.sig.returnType = some .boolean) (hlk : meth.locks = false) (hz : fm_bz r = true) (hf : some (r, σ) = some o) (hdg : decode cc pc = .ok (.ireturn, 1)) : W p l e R s m args below meth c H locs 0 0 (MQ below (fm_Qi G o) args s 0 0 (fm_A G)) (F0 m pc ls [.int r]) := by
  cases hf
  exact W.zret hC.1.1 hC.1.2.1 hr (fm_bz_nar hz).1 (fun t ht hW => ⟨⟨r, (), rfl, rfl, show va_P _ _ _ _ by rw [ht]; exact hI.1⟩, hI.2.F ht⟩) hI.2.2.2 hdg hlk
theorem fm_rl {o : Int64 × fm_M} {r : Int64} (hC : fm_C G p m c cc nL s args own) (hI : fm_I G σ s H locs) (hr : meth.sig.returnType = some .long) (hlk : meth.locks = false) (hf : some (r, σ) = some o) (hdg : decode cc pc = .ok (.lreturn, 1)) : W p l e R s m args below meth c H locs 0 0 (MQ below (fm_Ql G o) args s 0 0 (fm_A G)) (F0 m pc ls [.long r]) := by
  cases hf
  exact W.lret hC.1.1 hC.1.2.1 hr (fun t ht hW => ⟨⟨r, (), rfl, rfl, show va_P _ _ _ _ by rw [ht]; exact hI.1⟩, hI.2.F ht⟩) hI.2.2.2 hdg hlk
theorem fm_rv {o : Unit × fm_M} (hC : fm_C G p m c cc nL s args own) (hI : fm_I G σ s H locs) (hr : meth.sig.returnType = none) (hlk : meth.locks = false) (hf : some ((), σ) = some o) (hdg : decode cc pc = .ok (.return_, 1)) : W p l e R s m args below meth c H locs 0 0 (MQ below (fm_Qv G o) args s 0 0 (fm_A G)) (F0 m pc ls []) := by
  cases hf
  exact W.vret hC.1.1 hC.1.2.1 hr (fun t ht hW => ⟨⟨(), rfl, trivial, show va_P _ _ _ _ by rw [ht]; exact hI.1⟩, hI.2.F ht⟩) hI.2.2.2 hdg hlk
theorem fm_ra {o : Nat × fm_M} {j : Nat} {nm : String} (hC : fm_C G p m c cc nL s args own) (hI : fm_I G σ s H locs) (hr : meth.sig.returnType = some (.object nm)) (hlk : meth.locks = false) (hf : some (j, σ) = some o) (hdg : decode cc pc = .ok (.areturn, 1)) : W p l e R s m args below meth c H locs 0 0 (MQ below (fm_Qr G o) args s 0 0 (fm_A G)) (F0 m pc ls [.ref (G.2.1 j)]) := by
  cases hf
  exact W.aret hC.1.1 hC.1.2.1 hr (Or.inl ⟨nm, rfl⟩) (Or.inr ⟨_, rfl⟩) (fun t ht hW => ⟨⟨(), _, rfl, trivial, rfl, show va_P _ _ _ _ by rw [ht]; exact hI.1⟩, hI.2.F ht⟩) hI.2.2.2 hdg hlk
theorem fm_rt {o : Nat × fm_M} {j : Nat} {nm : String} (hC : fm_C G p m c cc nL s args own) (hI : fm_I G σ s H locs) (hr : meth.sig.returnType = some (.object nm)) (hlk : meth.locks = false) (hf : some (j, σ) = some o) (hdg : decode cc pc = .ok (.areturn, 1)) : W p l e R s m args below meth c H locs 0 0 (MQ below (fm_Qt G o) args s 0 0 (fm_A G)) (F0 m pc ls [.ref (G.2.2.2.1 j)]) := by
  cases hf
  exact W.aret hC.1.1 hC.1.2.1 hr (Or.inl ⟨nm, rfl⟩) (Or.inr ⟨_, rfl⟩) (fun t ht hW => ⟨⟨(), _, rfl, trivial, rfl, show va_P _ _ _ _ by rw [ht]; exact hI.1⟩, hI.2.F ht⟩) hI.2.2.2 hdg hlk
theorem fm_rn {o : Int32 × fm_M} {ty : FieldType} (hC : fm_C G p m c cc nL s args own) (hI : fm_I G σ s H locs) (hr : meth.sig.returnType = some ty) (hlk : meth.locks = false) (hn : narrow ty (.int r) = .int r) (hf : some (r, σ) = some o) (hdg : decode cc pc = .ok (.ireturn, 1)) : W p l e R s m args below meth c H locs 0 0 (MQ below (fm_Qi G o) args s 0 0 (fm_A G)) (F0 m pc ls [.int r]) := by
  cases hf
  exact W.zret hC.1.1 hC.1.2.1 hr hn (fun t ht hW => ⟨⟨r, (), rfl, rfl, show va_P _ _ _ _ by rw [ht]; exact hI.1⟩, hI.2.F ht⟩) hI.2.2.2 hdg hlk
theorem fm_cT {z : Nat} {σ' : fm_M} (hI : fm_I G σ s H locs) (hr : va_Run p l e R s m args below meth c H locs cells slots 0 0 (F0 m pc ls st0) rest (fm_Qt G (z, σ') a) (fm_A G)) (kk : ∀ (H1 : Heap) (locs1 : List Loc), fm_I G σ' s H1 locs1 → W p l e R s m args below meth c H1 locs1 cells slots Q (F0 m (pc + 3) ls (.ref (G.2.2.2.1 z) :: rest))) : W p l e R s m args below meth c H locs cells slots Q (F0 m pc ls st0) :=
  va_callr hr hI.2 (fun _ _ h => h) (fun _ h => h) (fun u ra t H1 locs1 ht hvm hp hB hz hk hS => by
    obtain ⟨rfl, hB⟩ := hB
    exact kk H1 locs1 ⟨by rw [← ht]; exact hB, hS⟩)
-- a call of an overriding or inherited method; of the method above
def fm_mU (C : String) (x y : MethodName) (bytes : ByteArray) (maxL : Nat) (ret : Option FieldType) (n : Nat) : Prop := Cond.sameMethod x.cls x.cls x.name x.desc ∈ fm_tb ∧ Cond.instanceMethod x ∈ fm_tb ∧ Cond.selects C x y ∈ fm_tb ∧ Cond.instanceMethod y ∈ fm_tb ∧ Cond.initialized y.cls ∈ fm_tb ∧ Cond.code y bytes maxL ret ∈ fm_tb ∧ (∃ (b0 : ByteArray) (m0 : Nat) (r0 : Option FieldType), Cond.code ⟨x.cls, x.name, x.desc⟩ b0 m0 r0 ∈ fm_tb) ∧ (x.cls ≠ "java/lang/invoke/MethodHandle" ∧ x.cls ≠ "java/lang/invoke/VarHandle" ∧ (parseMethodDescriptor x.desc).map (fun d => d.parameters.length) = some n)
theorem fm_runU {x : MethodName} {Qc : Array Value → State → Outcome → State → Prop} (hC : fm_C G p m c cc nL s args own) (hI : fm_I G σ s H locs) (hM : Met l y (fm_w y bytes maxL ret) rm (va_Pc (.ref (G.2.1 i) :: As) (fm_st G σ)) Qc 0 0 (fm_A G)) (hm : fm_mU C x y bytes maxL ret n) (hl : Cond.methodLink own index x ∈ fm_tb) (hrm : rm.cells = 0 ∧ rm.slots = 0) (hR : rm.frames + 1 ≤ R.frames ∧ 8 + (maxL + 11) + rm.locals ≤ R.locals) (hc : fm_ct i = ci) (hcl : vwCl[ci]? = some (C, T, N)) (hci : ci < 13)
    (hn : As.length = n) (hsz : ls.size = nL) (hst : st0 = As.reverse ++ .ref (G.2.1 i) :: rest) (hW : (rest.map fun v => v.category).sum ≤ 8) (hdg : decode cc pc = .ok (.invokevirtual index, 3)) (hf : cells ≤ R.cells ∧ slots ≤ R.slots) :
    va_Run p l e R s m args below meth c H locs cells slots 0 0 (F0 m pc ls st0) rest (Qc (Value.ref (G.2.1 i) :: As).toArray) (fm_A G) := by
  obtain ⟨hC1, hK, hJ, hXX⟩ := hC
  obtain ⟨m1, m2, m3, m4, m5, m6, ⟨b0, m0, r0, m7⟩, m8⟩ := hm
  have hts := hC1.2.2.2.2
  have hi : i < 110 := fm_lt hc (by omega)
  have hg : GoodIn fm_tb (va_wsO own index C x.cls x y (fm_w y bytes maxL ret)) := by
    intro w hw
    unfold va_wsO at hw
    rcases List.mem_append.mp hw with h | h
    · simp only [List.mem_cons, List.not_mem_nil, or_false] at h
      rcases h with rfl | rfl | rfl | rfl | rfl | rfl
      · exact fm_good _ hl
      · exact fm_good _ m1
      · exact fm_good _ m2
      · exact fm_good _ m3
      · exact fm_good _ m4
      · exact fm_good _ m5
    · exact fm_goodC m6 w h
  exact va_runU (x := x) (owner := x.cls) hC1 hM (va_cwO n hts hg rfl hrm.1 hrm.2 m7 m8 hR) ⟨fm_blind, va_recv hK hI.1 hcl (by rw [fm_at hi, fm_obj hc hci]), fm_pre hK hXX hI⟩ rfl hn hsz hst (lv_room hW) hdg hf
def fm_mP (own : String) (y : MethodName) (bytes : ByteArray) (maxL : Nat) (ret : Option FieldType) (n : Nat) : Prop := Cond.sameMethod y.cls y.cls y.name y.desc ∈ fm_tb ∧ Cond.superclass own y.cls ∈ fm_tb ∧ Cond.instanceMethod y ∈ fm_tb ∧ Cond.initialized y.cls ∈ fm_tb ∧ Cond.code y bytes maxL ret ∈ fm_tb ∧ (y.name ≠ "<init>" ∧ (parseMethodDescriptor y.desc).map (fun d => d.parameters.length) = some n)
theorem fm_manC {i : Nat} (h : fm_man i) : ∃ (ci : Nat) (C : String) (T : u_T) (N : Nat), fm_ct i = ci ∧ vwCl[ci]? = some (C, T, N) ∧ ci < 13 := by
  obtain ⟨h1, h2⟩ := h
  have h3 : i = 2 ∨ i = 3 ∨ i = 4 ∨ i = 5 ∨ i = 6 ∨ i = 7 := by omega
  rcases h3 with rfl | rfl | rfl | rfl | rfl | rfl
  · exact ⟨4, _, _, _, by decide +kernel, rfl, by decide⟩
  · exact ⟨0, _, _, _, by decide +kernel, rfl, by decide⟩
  · exact ⟨1, _, _, _, by decide +kernel, rfl, by decide⟩
  · exact ⟨6, _, _, _, by decide +kernel, rfl, by decide⟩
  · exact ⟨3, _, _, _, by decide +kernel, rfl, by decide⟩
  · exact ⟨2, _, _, _, by decide +kernel, rfl, by decide⟩
theorem fm_runP {Qc : Array Value → State → Outcome → State → Prop} (hC : fm_C G p m c cc nL s args own) (hI : fm_I G σ s H locs) (hM : Met l y (fm_w y bytes maxL ret) rm (va_Pc (.ref (G.2.1 i) :: As) (fm_st G σ)) Qc 0 0 (fm_A G)) (hm : fm_mP own y bytes maxL ret n) (hl : Cond.methodLink own index y ∈ fm_tb) (hrm : rm.cells = 0 ∧ rm.slots = 0) (hR : rm.frames + 1 ≤ R.frames ∧ 8 + (maxL + 11) + rm.locals ≤ R.locals) (hman : fm_man i)
    (hn : As.length = n) (hsz : ls.size = nL) (hst : st0 = As.reverse ++ .ref (G.2.1 i) :: rest) (hW : (rest.map fun v => v.category).sum ≤ 8) (hdg : decode cc pc = .ok (.invokespecial index, 3)) (hf : cells ≤ R.cells ∧ slots ≤ R.slots) :
    va_Run p l e R s m args below meth c H locs cells slots 0 0 (F0 m pc ls st0) rest (Qc (Value.ref (G.2.1 i) :: As).toArray) (fm_A G) := by
  obtain ⟨hC1, hK, hJ, hXX⟩ := hC
  obtain ⟨m1, m2, m3, m4, m5, m6⟩ := hm
  obtain ⟨ci, C, T, N, hc, hcl, hci⟩ := fm_manC hman
  have hts := hC1.2.2.2.2
  have hi : i < 110 := fm_lt hc (by omega)
  have hg : GoodIn fm_tb (va_wsSU own index y (fm_w y bytes maxL ret)) := by
    intro w hw
    unfold va_wsSU at hw
    rcases List.mem_append.mp hw with h | h
    · simp only [List.mem_cons, List.not_mem_nil, or_false] at h
      rcases h with rfl | rfl | rfl | rfl | rfl
      · exact fm_good _ hl
      · exact fm_good _ m1
      · exact fm_good _ m2
      · exact fm_good _ m3
      · exact fm_good _ m4
    · exact fm_goodC m5 w h
  exact va_runSU (C := C) (cC := G.1.1 ci) (hK.1 ci _ hcl).2 hC1 hM (va_cwSU n hts hg rfl hrm.1 hrm.2 m6 hR) ⟨fm_blind, va_recv hK hI.1 hcl (by rw [fm_at hi, fm_obj hc hci]), fm_pre hK hXX hI⟩ rfl hn hsz hst (lv_room hW) hdg hf
end FM
/-- a method's contract out of its walk -/
theorem fm_mth {l : Launch} {G : fm_G} {σ : fm_M} {y : MethodName} {bytes : ByteArray} {maxL : Nat} {ret : Option FieldType} {rm : Room} {av : List Value} {own : String} {Qc : Array Value → State → Outcome → State → Prop} (hJ : fm_J G) (ho : y.cls = own) (hy : plainName y.cls = true) (hL : (lg_sl av).length ≤ maxL)
    (K : ∀ (p : Program) (e : Env) (s : State) (m : MethodId) (below : List Frame) (meth : Method) (c : Code) (ls : Array Slot), fm_C G p m c bytes maxL s av.toArray own → meth.sig.returnType = ret → meth.locks = false → fm_I G σ s s.heap [] → lv_has ls maxL (lv_args 0 av) → W p l e rm s m av.toArray below meth c s.heap [] 0 0 (MQ below Qc av.toArray s 0 0 (fm_A G)) (F0 m 0 ls [])) :
    Met l y (fm_w y bytes maxL ret) rm (va_Pc av (fm_st G σ)) Qc 0 0 (fm_A G) := by
  refine Met.ofW (cc := bytes) (maxL := maxL) (ret := ret) hy rfl ?_
  intro p e s m args below meth c s₁ B hml hv
  obtain ⟨rfl, hP, hK, hXX⟩ := hv
  have hts := atoms_spec (ws := fm_w y bytes maxL ret) B.pre
  have hown : s.vm.findClass y.cls = some m.cls := findClass_of_methodNamed B.named
  rw [ho] at hown
  have hl := lv_entry av (n := maxL) hL
  rw [lg_entry_eq]
  exact K p e s m below meth c _ ⟨⟨B.exec, B.bytes, hml, hown, fun w h => hts w (List.mem_cons_of_mem _ h)⟩, hK, hJ, hXX⟩ B.returns B.notSynchronized ⟨hP, va_S.rf⟩ hl
theorem fm_T0 {b : Nat} (h : fm_ct b = 10) : fm_rf b 0 = 1 := (fm_shT b (fm_lt h (by decide)) h).1
theorem fm_T1 {b : Nat} (h : fm_ct b = 10) : fm_ct (b + 1) = 17 ∧ fm_rf b 1 = b + 1 ∧ fm_ln (b + 1) = 6 := (fm_shT b (fm_lt h (by decide)) h).2.1
theorem fm_T2 {b : Nat} (h : fm_ct b = 10) : fm_ct (b + 8) = 18 ∧ fm_rf b 2 = b + 8 ∧ fm_ln (b + 8) = 8 := (fm_shT b (fm_lt h (by decide)) h).2.2.1
theorem fm_T3 {b : Nat} {x : Int32} (h : fm_ct b = 10) (hx : fm_in1 x 6 = true) : fm_ct (b + 2 + x.toNatClampNeg) = 5 ∧ fm_rf (b + 1) x.toNatClampNeg = b + 2 + x.toNatClampNeg := (fm_shT b (fm_lt h (by decide)) h).2.2.2.1 _ (fm_lt6 hx)
theorem fm_T4 {b : Nat} {x : Int32} (h : fm_ct b = 10) (hx : fm_in1 x 8 = true) : fm_ct (b + 9 + 2 * x.toNatClampNeg) = 7 ∧ fm_rf (b + 8) x.toNatClampNeg = b + 9 + 2 * x.toNatClampNeg := (fm_shT b (fm_lt h (by decide)) h).2.2.2.2 _ (fm_lt6 hx)
theorem fm_P0 {a : Nat} (h : fm_ct a = 7) : fm_ct (a + 1) = 14 ∧ fm_rf a 0 = a + 1 ∧ fm_ln (a + 1) = 6 := fm_shP a (fm_lt h (by decide)) h
theorem fm_S0 {a : Nat} (h : fm_ct a = 8) : fm_ct (a + 1) = 15 ∧ fm_rf a 0 = a + 1 ∧ fm_ln (a + 1) = 40 := fm_shS a (fm_lt h (by decide)) h
theorem fm_V0 {x : Int32} (hx : fm_in1 x 4 = true) : fm_ct (84 + 2 * x.toNatClampNeg) = 8 ∧ fm_rf 83 x.toNatClampNeg = 84 + 2 * x.toNatClampNeg := fm_shV _ (fm_lt6 hx)
theorem fm_M0 {x : Int32} (hx : fm_in1 x 6 = true) : fm_man (2 + x.toNatClampNeg) ∧ fm_rf 1 x.toNatClampNeg = 2 + x.toNatClampNeg := ⟨⟨by omega, by have := fm_lt6 hx; omega⟩, fm_shM _ (fm_lt6 hx)⟩
theorem fm_neI {x v : Int32} (h : ¬ x = v) : x.toInt ≠ v.toInt := fun z => h (Int32.toInt_inj.mp z)
section FMT
variable {p : Program} {l : Launch} {e : Env} {R : Room} {s : State} {m : MethodId} {args : Array Value} {below : List Frame} {meth : Method} {c : Code} {H : Heap} {locs : List Loc} {cells slots : Nat} {Q : State → Prop}
variable {cc : ByteArray} {pc nL : Nat} {ls : Array Slot} {rest : List Value} {G : fm_G} {σ : fm_M} {own : String}
variable {y : MethodName} {bytes : ByteArray} {maxL n index i ci N : Nat} {ret : Option FieldType} {rm : Room} {As st0 : List Value} {C : String} {T : u_T}
/-- a call on a text -/
theorem fm_runT {Qc : Array Value → State → Outcome → State → Prop} (hC : fm_C G p m c cc nL s args own) (hI : fm_I G σ s H locs) (hM : Met l y (fm_w y bytes maxL ret) rm (va_Pc (.ref (G.2.2.2.1 i) :: As) (fm_st G σ)) Qc 0 0 (fm_A G)) (hm : fm_mV "java/lang/String" y bytes maxL ret n) (hl : Cond.methodLink own index y ∈ fm_tb) (hrm : rm.cells = 0 ∧ rm.slots = 0) (hR : rm.frames + 1 ≤ R.frames ∧ 8 + (maxL + 11) + rm.locals ≤ R.locals) (hi : i < 12)
    (hn : As.length = n) (hsz : ls.size = nL) (hst : st0 = As.reverse ++ .ref (G.2.2.2.1 i) :: rest) (hW : (rest.map fun v => v.category).sum ≤ 8) (hdg : decode cc pc = .ok (.invokevirtual index, 3)) (hf : cells ≤ R.cells ∧ slots ≤ R.slots) :
    va_Run p l e R s m args below meth c H locs cells slots 0 0 (F0 m pc ls st0) rest (Qc (Value.ref (G.2.2.2.1 i) :: As).toArray) (fm_A G) := by
  obtain ⟨hC1, hK, hJ, hXX⟩ := hC
  have hts := hC1.2.2.2.2
  exact va_runV hC1 hM (cwV n hts (fm_goodW hm hl) rfl hrm.1 hrm.2 hm.2.2.2.2 hR) ⟨fm_blind, vk_recv hXX.1 hi hI.2, fm_pre hK hXX hI⟩ rfl hn hsz hst (lv_room hW) hdg hf
/-- whether one of the six is of a kind, or of one under it -/
theorem fm_inst {nm : String} (ps : List Nat) (hC : fm_C G p m c cc nL s args own) (hI : fm_I G σ s H locs) (hm : fm_man i) (hl : Cond.classLink own index nm ∈ fm_tb)
    (hy : ∀ (ci : Nat) (C : String) (T : u_T) (N : Nat), fm_ct i = ci → vwCl[ci]? = some (C, T, N) → (i ∈ ps → C = nm ∨ (C, nm) ∈ fm_yc) ∧ (¬ i ∈ ps → (C, nm) ∈ fm_nc)) (hdg : decode cc pc = .ok (.instanceof index, 3))
    (kk : W p l e R s m args below meth c H locs cells slots Q (F0 m (pc + 3) ls (.int (if i ∈ ps then 1 else 0) :: rest))) : W p l e R s m args below meth c H locs cells slots Q (F0 m pc ls (.ref (G.2.1 i) :: rest)) := by
  obtain ⟨⟨hx, hb, hml, hown, hts⟩, hK, hJ, hXX⟩ := hC
  obtain ⟨ci, C, T, N, hc, hcl, hci⟩ := fm_manC hm
  have hi : i < 110 := fm_lt hc (by omega)
  have hr := va_recv hK hI.1 hcl (show (fm_wl G σ)[i]? = some (G.2.1 i, .inr (ci, fm_fs G (σ.1 i) (σ.2 i) i ci)) by rw [fm_at hi, fm_obj hc hci])
  obtain ⟨h1, h2⟩ := hy ci C T N hc hcl
  by_cases hp : i ∈ ps
  · rw [if_pos hp] at kk
    rcases h1 hp with rfl | h
    · exact va_instE hx hb hown (hts _ hl) hr hdg kk
    · exact va_instY (C := C) hx hb hown (hts _ hl) (hXX.2.2.2.2.2 _ h) hr hdg kk
  · rw [if_neg hp] at kk
    exact va_instNo (C := C) hx hb hown (hts _ hl) (hXX.2.2.2.2.1 _ (h2 hp)) hr hdg kk
end FMT
/-- one array's numbers come to another's -/
def fm_cpL (σ : fm_M) (i j sp dp n : Nat) : fm_M := (σ.1, fun a => if a = j then va_cpy (σ.2 i) (σ.2 j) sp dp n else σ.2 a)
def fm_cpk (sp dp n : Int32) (n0 n1 : Nat) : Bool := decide (¬ sp < 0) && (decide (¬ dp < 0) && (decide (¬ n < 0) && (decide (sp.toNatClampNeg + n.toNatClampNeg ≤ n0) && decide (dp.toNatClampNeg + n.toNatClampNeg ≤ n1))))
section FMC
variable {p : Program} {l : Launch} {e : Env} {R : Room} {s : State} {m : MethodId} {args : Array Value} {below : List Frame} {meth : Method} {c : Code} {H : Heap} {locs : List Loc} {cells slots : Nat} {Q : State → Prop}
variable {cc : ByteArray} {pc nL : Nat} {ls : Array Slot} {rest : List Value} {G : fm_G} {σ : fm_M} {own : String}
theorem fm_copyl {i j index n0 n1 : Nat} {sp dp n : Int32} {σ' : fm_M} (hC : fm_C G p m c cc nL s args own) (hI : fm_I G σ s H locs) (hsz : ls.size = nL) (hl : Cond.methodLink own index arraycopyName ∈ fm_tb) (h1 : Cond.native arraycopyName ∈ fm_tb) (h2 : Cond.static arraycopyName ∈ fm_tb) (h3 : Cond.initialized "java/lang/System" ∈ fm_tb) (hc : fm_ct i = 15) (hc2 : fm_ct j = 15) (hn0 : fm_ln i = n0) (hn1 : fm_ln j = n1) (hk : fm_cpk sp dp n n0 n1 = true) (he : σ' = fm_cpL σ i j sp.toNatClampNeg dp.toNatClampNeg n.toNatClampNeg)
    (hframes : 1 ≤ R.frames) (hlocals : (rest.map fun v => v.category).sum + (nativeFrameWords "java/lang/System" "arraycopy" 5 + 11) ≤ R.locals) (hdg : decode cc pc = .ok (.invokestatic index, 3))
    (kk : ∀ (H1 : Heap) (locs1 : List Loc), fm_I G σ' s H1 locs1 → W p l e R s m args below meth c H1 locs1 cells slots Q (F0 m (pc + 3) ls rest)) : W p l e R s m args below meth c H locs cells slots Q (F0 m pc ls (.int n :: .int dp :: .ref (G.2.1 j) :: .int sp :: .ref (G.2.1 i) :: rest)) := by
  obtain ⟨⟨hx, hb, hml, hown, hts⟩, hK, hJ, hXX⟩ := hC
  subst hn0; subst hn1
  have hi : i < 110 := fm_lt hc (by omega)
  have hj : j < 110 := fm_lt hc2 (by omega)
  simp only [fm_cpk, Bool.and_eq_true, decide_eq_true_eq] at hk
  obtain ⟨k1, k2, k3, k4, k5⟩ := hk
  refine va_copyl hx hb (hml.trans hsz.symm) hown (hts _ hl) (hts _ h1) (hts _ h2) (hts _ h3) hK hI.1 (fm_D hJ σ) hI.2 i j 2 2 (by rw [fm_at hi, fm_arL hc]) (by rw [fm_at hj, fm_arL hc2]) rfl rfl rfl k1 k2 k3 k4 k5 (fun _ _ => rfl) hframes hlocals hdg (fun H1 locs1 hP _ hS => kk H1 locs1 ⟨?_, hS⟩)
  rw [fm_set (σ' := σ') hj (by rw [he, fm_arL hc2]; simp [fm_cpL]) (by
    intro q hq
    rw [he]
    unfold fm_ce fm_cpL
    simp only [if_neg hq])] at hP
  exact hP
end FMC
