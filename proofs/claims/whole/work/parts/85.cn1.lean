/-! THE CONSTRUCTORS: worlds that grow at their end -/
def cn_ty (kA : Nat → ClassId) : List (ClassId × FieldType) := [(kA 13, .char), (kA 14, .int), (kA 15, .long), (kA 16, .object "WrapGifts$Man"), (kA 17, .object "WrapGifts$Person"), (kA 18, .object "WrapGifts$Present"), (kA 19, .object "WrapGifts$Sheet")]
def cn_nl : List (String × Nat × MethodName) := [(RX11, 289, yX4_init), (RX11, 290, yX0_init), (RX0, 1, yX4_init), (RX11, 291, yX1_init), (RX1, 1, yX4_init), (RX11, 292, yX6_init), (RX6, 3, yX4_init), (RX11, 293, yX3_init), (RX3, 1, yX1_init), (RX11, 294, yX2_init), (RX2, 1, yX0_init), (RX10, 21, yX5_init), (RX10, 28, yX7_init), (RX11, 38, yX8_init), (RX11, 41, yX9_init)]
def cn_ao : List String := ["WrapGifts$Man", "WrapGifts$Person", "WrapGifts$Present", "WrapGifts$Sheet"]
def cn_cs : List String := ["WrapGifts$Aunt", "WrapGifts$Child", "WrapGifts$Poor", "WrapGifts$Girl", "WrapGifts$Clerk"]
def cn_N (U : State) : Prop := (∀ q ∈ cn_nl, va_Nw (.methodLinkNest q.1 q.2.1 q.2.2 "WrapGifts") U) ∧ (∀ C ∈ cn_ao, va_AO C U) ∧ ∀ C ∈ cn_cs, va_Nw (.castable C "WrapGifts$Man") U
theorem cn_N.to {s U : State} (h : cn_N s) (hW : s.WarmedH U.vm) : cn_N U := ⟨fun q hq => va_Nw.warmM hW (h.1 q hq), fun C hC => va_AO.moved hW.alike (h.2.1 C hC), fun C hC => va_Nw.warmC hW (h.2.2 C hC)⟩
theorem cn_N.blind {U V : State} (h : cn_N U) (hv : V.vm = U.vm) : cn_N V := ⟨fun q hq => va_Nw.same rfl hv.symm (h.1 q hq), fun C hC => va_AO.moved (by rw [hv]; exact Vm.Alike.refl U.vm) (h.2.1 C hC), fun C hC => va_Nw.same rfl hv.symm (h.2.2 C hC)⟩
def cn_st (D : va_G) (kA : Nat → ClassId) (ws : va_W) (sz : Nat) (U : State) : Prop := U.heap.size = sz ∧ va_P D vwCl ws U.heap ∧ va_K D vwCl (cn_ty kA) U ∧ va_D (fun _ => True) ws ∧ cn_N U
def cn_Q (D : va_G) (ws : va_W) (sz : Nat) (post : va_W → Prop) : Array Value → State → Outcome → State → Prop := va_Qv post (fun w t => va_P D vwCl w t.heap ∧ va_D (va_A ws sz) w) (va_A ws sz)
theorem cn_joinA {A0 : Nat → Prop} {D : va_G} {cl : List vw_C} {wr wc w1 : va_W} {H H1 : Heap} (hP : va_P D cl (wr ++ wc) H) (hD : va_D A0 (wr ++ wc)) (hk : ∀ q : Nat, q < H.size → ¬ va_A wc H.size q → H1[q]? = H[q]?) (hF : ∀ q, va_A wc H.size q → A0 q) (hP1 : va_P D cl w1 H1) (hD1 : va_D (va_A wc H.size) w1) : va_P D cl (wr ++ w1) H1 ∧ va_D A0 (wr ++ w1) := by
  have inl : ∀ (k : Nat) (q : Nat × va_E), wr[k]? = some q → k < wr.length ∧ (wr ++ wc)[k]? = some q := fun k q h => by
    have hk := (List.getElem?_eq_some_iff.mp h).1
    exact ⟨hk, by rw [List.getElem?_append_left hk]; exact h⟩
  have apart : ∀ (k : Nat) (q : Nat × va_E), wr[k]? = some q → q.1 < H.size ∧ ¬ va_A wc H.size q.1 := by
    intro k q hq
    obtain ⟨h1, h2⟩ := inl k q hq
    have hl := (hP k q h2).lt
    refine ⟨hl, fun h => ?_⟩
    rcases h with ⟨j, e, h⟩ | h
    · have h3 : (wr ++ wc)[wr.length + j]? = some (q.1, e) := by
        rw [List.getElem?_append_right (by omega), Nat.add_sub_cancel_left]; exact h
      have := hD.1 k (wr.length + j) q (q.1, e) h2 h3 rfl
      omega
    · omega
  refine ⟨va_P.app (fun k q hq => ?_) hP1, va_D.app ⟨fun i j x y hx hy hxy => hD.1 i j x y (inl i x hx).2 (inl j y hy).2 hxy, fun k q hq => hD.2 k q (inl k q hq).2⟩ (hD1.weaken (fun k q _ h => hF q.1 h)) (fun i j x y hx hy hxy => ?_)⟩
  · obtain ⟨g1, g2⟩ := apart k q hq
    exact (hP k q (inl k q hq).2).kept (hk q.1 g1 g2)
  · exact (apart i x hx).2 (by rw [hxy]; exact hD1.2 j y hy)
theorem set_mid {α : Type} (P L : List α) (x y : α) : (P ++ x :: L).set P.length y = P ++ y :: L := by
  induction P with
  | nil => rfl
  | cons a P ih => simp only [List.cons_append, List.length_cons, List.set_cons_succ, ih]
theorem get_mid {α : Type} (P L : List α) (x : α) : (P ++ x :: L)[P.length]? = some x := by
  rw [List.getElem?_append_right (by omega), Nat.sub_self]; rfl
theorem cn_uniP {U : State} {ty : FieldType} {cA cB : ClassId} (h1 : U.vm.findClass ("[" ++ ty.toString) = some cA) (h2 : U.vm.findClass ("[" ++ ty.toString) = some cB) : cA = cB := Option.some.inj (h1.symm.trans h2)
section CN
variable {p : Program} {l : Launch} {e : Env} {R : Room} {s : State} {m : MethodId} {args : Array Value} {below : List Frame} {meth : Method} {c : Code} {H : Heap} {locs : List Loc} {cells slots : Nat} {Q : State → Prop}
variable {cc : ByteArray} {pc nL : Nat} {ls : Array Slot} {rest : List Value} {D : va_G} {kA : Nat → ClassId} {own : String} {A : Nat → Prop} {ws : va_W}
def cn_C (D : va_G) (kA : Nat → ClassId) (p : Program) (m : MethodId) (c : Code) (cc : ByteArray) (nL : Nat) (s : State) (args : Array Value) (own : String) : Prop := CallFix p m c cc nL s args fm_tb own ∧ va_K D vwCl (cn_ty kA) s ∧ cn_N s
def cn_I (D : va_G) (A : Nat → Prop) (ws : va_W) (s : State) (H : Heap) (locs : List Loc) : Prop := va_P D vwCl ws H ∧ va_D A ws ∧ va_S A s.heap H locs ∧ ∀ q, s.heap.size ≤ q → A q
theorem cn_newI {n : Int32} {N : Nat} (hC : cn_C D kA p m c cc nL s args own) (hI : cn_I D A ws s H locs) (hn : ¬ n < 0) (hN : n.toNatClampNeg = N) (hbytes : N * componentBytes .int ≤ 536870912) (hcells : cells + 1 ≤ R.cells) (hslots : slots + N ≤ R.slots) (hdg : decode cc pc = .ok (.newarray .int, 2))
    (kk : ∀ (q : Nat) (H1 : Heap), cn_I D A (ws ++ [(q, .inl (kA 14, N, .inl (fun _ => 0)))]) s H1 locs → W p l e R s m args below meth c H1 locs (cells + 1) (slots + N) Q (F0 m (pc + 2) ls (.ref q :: rest))) : W p l e R s m args below meth c H locs cells slots Q (F0 m pc ls (.int n :: rest)) := by
  obtain ⟨⟨hx, hb, hml, hown, hts⟩, hK, hN9⟩ := hC
  obtain ⟨hP, hD, hS, hA⟩ := hI
  refine va_newa (atype := .int) (ty := .int) (a0 := (N, .inl (fun _ => 0))) hx hb (hts _ q_130) rfl hK hP hD hS hA (fun cA => rfl) hn hN hbytes hcells hslots hdg (fun q cA H1 hK1 hP1 hD1 hS1 => ?_)
  have e1 := (hK1.2 7 (cA, .int) rfl).2
  have e2 := (hK.2 1 (kA 14, .int) rfl).2
  have e3 : cA = kA 14 := cn_uniP (ty := .int) e1 e2
  subst e3
  exact kk q H1 ⟨hP1, hD1, hS1, hA⟩
theorem cn_newL {n : Int32} {N : Nat} (hC : cn_C D kA p m c cc nL s args own) (hI : cn_I D A ws s H locs) (hn : ¬ n < 0) (hN : n.toNatClampNeg = N) (hbytes : N * componentBytes .long ≤ 536870912) (hcells : cells + 1 ≤ R.cells) (hslots : slots + N ≤ R.slots) (hdg : decode cc pc = .ok (.newarray .long, 2))
    (kk : ∀ (q : Nat) (H1 : Heap), cn_I D A (ws ++ [(q, .inl (kA 15, N, .inr (.inl (fun _ => 0))))]) s H1 locs → W p l e R s m args below meth c H1 locs (cells + 1) (slots + N) Q (F0 m (pc + 2) ls (.ref q :: rest))) : W p l e R s m args below meth c H locs cells slots Q (F0 m pc ls (.int n :: rest)) := by
  obtain ⟨⟨hx, hb, hml, hown, hts⟩, hK, hN9⟩ := hC
  obtain ⟨hP, hD, hS, hA⟩ := hI
  refine va_newa (atype := .long) (ty := .long) (a0 := (N, .inr (.inl (fun _ => 0)))) hx hb (hts _ q_178) rfl hK hP hD hS hA (fun cA => rfl) hn hN hbytes hcells hslots hdg (fun q cA H1 hK1 hP1 hD1 hS1 => ?_)
  have e1 := (hK1.2 7 (cA, .long) rfl).2
  have e2 := (hK.2 2 (kA 15, .long) rfl).2
  have e3 : cA = kA 15 := cn_uniP (ty := .long) e1 e2
  subst e3
  exact kk q H1 ⟨hP1, hD1, hS1, hA⟩
theorem cn_newC {n : Int32} {N : Nat} (hC : cn_C D kA p m c cc nL s args own) (hI : cn_I D A ws s H locs) (hn : ¬ n < 0) (hN : n.toNatClampNeg = N) (hbytes : N * componentBytes .char ≤ 536870912) (hcells : cells + 1 ≤ R.cells) (hslots : slots + N ≤ R.slots) (hdg : decode cc pc = .ok (.newarray .char, 2))
    (kk : ∀ (q : Nat) (f : Nat → Int32) (H1 : Heap), cn_I D A (ws ++ [(q, .inl (kA 13, N, .inl f))]) s H1 locs → W p l e R s m args below meth c H1 locs (cells + 1) (slots + N) Q (F0 m (pc + 2) ls (.ref q :: rest))) : W p l e R s m args below meth c H locs cells slots Q (F0 m pc ls (.int n :: rest)) := by
  obtain ⟨⟨hx, hb, hml, hown, hts⟩, hK, hN9⟩ := hC
  obtain ⟨hP, hD, hS, hA⟩ := hI
  refine va_newa (atype := .char) (ty := .char) (a0 := (N, .inl (fun _ => 0))) hx hb (hts _ q_859) rfl hK hP hD hS hA (fun cA => rfl) hn hN hbytes hcells hslots hdg (fun q cA H1 hK1 hP1 hD1 hS1 => ?_)
  have e1 := (hK1.2 7 (cA, .char) rfl).2
  have e2 := (hK.2 0 (kA 13, .char) rfl).2
  have e3 : cA = kA 13 := cn_uniP (ty := .char) e1 e2
  subst e3
  exact kk q _ H1 ⟨hP1, hD1, hS1, hA⟩
theorem cn_newq {C : String} {n : Int32} {N index t0 k0 : Nat} (hC : cn_C D kA p m c cc nL s args own) (hI : cn_I D A ws s H locs) (hcl : Cond.classLink own index C ∈ fm_tb) (hao : C ∈ cn_ao) (ht : (cn_ty kA)[t0]? = some (kA k0, .object C)) (hn : ¬ n < 0) (hN : n.toNatClampNeg = N) (hbytes : N * 4 ≤ 536870912) (hcells : cells + 1 ≤ R.cells) (hslots : slots + N ≤ R.slots) (hdg : decode cc pc = .ok (.anewarray index, 3))
    (kk : ∀ (q : Nat) (H1 : Heap), cn_I D A (ws ++ [(q, .inl (kA k0, N, .inr (.inr (.inr (.inr (fun _ => none))))))]) s H1 locs → W p l e R s m args below meth c H1 locs (cells + 1) (slots + N) Q (F0 m (pc + 3) ls (.ref q :: rest))) : W p l e R s m args below meth c H locs cells slots Q (F0 m pc ls (.int n :: rest)) := by
  obtain ⟨⟨hx, hb, hml, hown, hts⟩, hK, hN9⟩ := hC
  obtain ⟨hP, hD, hS, hA⟩ := hI
  refine va_newq hx hb hown (hts _ hcl) (hN9.2.1 C hao) hK hP hD hS hA hn hN hbytes hcells hslots hdg (fun q cA H1 hK1 hP1 hD1 hS1 => ?_)
  obtain ⟨_, _, _, _, _, e1⟩ := (hK1.2 7 (cA, .object C) rfl).2
  obtain ⟨_, _, _, _, _, e2⟩ := (hK.2 t0 (kA k0, .object C) ht).2
  have e3 : cA = kA k0 := Option.some.inj (e1.symm.trans e2)
  subst e3
  exact kk q H1 ⟨hP1, hD1, hS1, hA⟩
/-- a final field of the object that is made -/
def cn_ff (C : String) (T : u_T) (N ci k : Nat) (ty0 : Nat → FieldType) (ty : FieldType) : Prop := vwCl[ci]? = some (C, T, N) ∧ (∀ w ∈ u_ws C T N, w ∈ fm_tb) ∧ k < N ∧ (∀ k, k < N → parseFieldDescriptor (T k).2.2.1 = some (ty0 k)) ∧ (∀ a, a < N → ∀ b, b < N → a ≠ b → (T a).2.1 ≠ (T b).2.1) ∧ (T k).2.2.2 = true ∧ (T k).1 = C ∧ parseFieldDescriptor (T k).2.2.1 = some ty
theorem cn_put {T : u_T} {N ci k index h0 : Nat} {ty0 : Nat → FieldType} {ty : FieldType} {fs : List Value} {v : Value} (hC : cn_C D kA p m c cc nL s args own) (hI : cn_I D A ((h0, .inr (ci, fs)) :: ws) s H locs) (hf : cn_ff own T N ci k ty0 ty) (hin : meth.name = "<init>") (hn : narrow ty v = v) (hfit : fits ty v = true) (hl : Cond.fieldLink own index (T k).1 (T k).2.1 (T k).2.2.1 ∈ fm_tb) (hk : k < fs.length) (hdg : decode cc pc = .ok (.putfield index, 3))
    (kk : ∀ (H1 : Heap) (locs1 : List Loc), cn_I D A ((h0, .inr (ci, fs.set k v)) :: ws) s H1 locs1 → W p l e R s m args below meth c H1 locs1 cells slots Q (F0 m (pc + 3) ls rest)) : W p l e R s m args below meth c H locs cells slots Q (F0 m pc ls (v :: .ref h0 :: rest)) := by
  obtain ⟨⟨hx, hb, hml, hown, hts⟩, hK, hN9⟩ := hC
  obtain ⟨hP, hD, hS, hA⟩ := hI
  obtain ⟨f1, f2, f3, f4, f5, f6, f7, f8⟩ := hf
  exact va_putF hx hb hts f2 ty0 f4 f5 hown hK hP hD hS 0 rfl f1 k f3 (hts _ hl) (fun _ h => h) f6 hin f7 f8 hn hfit hk hdg (fun H1 locs1 hP hD hS => kk H1 locs1 ⟨hP, hD, hS, hA⟩)
/-- a field of it is read -/
theorem cn_get {T : u_T} {N ci k index h0 : Nat} {ty0 : Nat → FieldType} {ty : FieldType} {fs : List Value} {v : Value} (hC : cn_C D kA p m c cc nL s args own) (hI : cn_I D A ((h0, .inr (ci, fs)) :: ws) s H locs) (hf : cn_ff own T N ci k ty0 ty) (hl : Cond.fieldLink own index (T k).1 (T k).2.1 (T k).2.2.1 ∈ fm_tb) (hv : fs[k]? = some v) (hdg : decode cc pc = .ok (.getfield index, 3))
    (kk : W p l e R s m args below meth c H locs cells slots Q (F0 m (pc + 3) ls (v :: rest))) : W p l e R s m args below meth c H locs cells slots Q (F0 m pc ls (.ref h0 :: rest)) := by
  obtain ⟨⟨hx, hb, hml, hown, hts⟩, hK, hN9⟩ := hC
  obtain ⟨hP, hD, hS, hA⟩ := hI
  obtain ⟨f1, f2, f3, f4, f5, f6, f7, f8⟩ := hf
  exact va_get hx hb hts f2 hown hK hP 0 rfl f1 k f3 (hts _ hl) (fun _ h => h) hv hdg kk
/-- Object's constructor -/
theorem cn_obj {idx h0 : Nat} (hC : cn_C D kA p m c cc nL s args own) (hsz : ls.size = nL) (hl : Cond.methodLink own idx objectInit ∈ fm_tb) (hR : 1 ≤ R.frames ∧ 12 ≤ R.locals) (hdg : decode cc pc = .ok (.invokespecial idx, 3))
    (kk : W p l e R s m args below meth c H locs cells slots Q (F0 m (pc + 3) ls [])) : W p l e R s m args below meth c H locs cells slots Q (F0 m pc ls [.ref h0]) := by
  obtain ⟨⟨hx, hb, hml, hown, hts⟩, hK, hN9⟩ := hC
  refine W.objInit hx hb hown (hts _ hl) (hts _ q_27) (hts _ q_28) rfl (hsz.trans hml.symm) rfl hdg hR.1 hR.2 ?_
  exact W.eq (g2 := F0 m (pc + 3) ls []) rfl kk
/-- the end of a constructor -/
theorem cn_vr {ws0 w : va_W} {post : va_W → Prop} {mc ms : Nat} (hC : cn_C D kA p m c cc nL s args own) (hr : meth.sig.returnType = none) (hlk : meth.locks = false) (hI : cn_I D (va_A ws0 s.heap.size) w s H locs) (hp : post w) (hc : cells ≤ mc) (hs : slots ≤ ms) (hdg : decode cc pc = .ok (.return_, 1)) : W p l e R s m args below meth c H locs cells slots (MQ below (cn_Q D ws0 s.heap.size post) args s mc ms (va_A ws0 s.heap.size)) (F0 m pc ls []) := by
  obtain ⟨hP, hD, hS, hA⟩ := hI
  refine W.widen hc hs ?_
  exact W.vret hC.1.1 hC.1.2.1 hr (fun t ht hW => ⟨⟨w, rfl, hp, by rw [ht]; exact hP, hD⟩, hS.F ht⟩) hS.2.2 hdg hlk
/-- behind a call of a constructor -/
theorem cn_ret {wc : va_W} {post : va_W → Prop} {mc ms : Nat} {st0 : List Value} {a : Array Value} (hI : cn_I D A (ws ++ wc) s H locs) (hr : va_Run p l e R s m args below meth c H locs cells slots mc ms (F0 m pc ls st0) rest (cn_Q D wc H.size post a) (va_A wc H.size))
    (kk : ∀ (w : va_W) (H1 : Heap) (locs1 : List Loc), post w → cn_I D A (ws ++ w) s H1 locs1 → W p l e R s m args below meth c H1 locs1 (cells + mc) (slots + ms) Q (F0 m (pc + 3) ls rest)) : W p l e R s m args below meth c H locs cells slots Q (F0 m pc ls st0) := by
  obtain ⟨hP, hD, hS, hA⟩ := hI
  have hF : ∀ q, va_A wc H.size q → A q := by
    intro q h
    rcases h with ⟨k, e, h⟩ | h
    · exact hD.2 (ws.length + k) (q, e) (by rw [List.getElem?_append_right (by omega), Nat.add_sub_cancel_left]; exact h)
    · exact hA q (Nat.le_trans hS.1 h)
  refine va_callv hr hS (fun q _ h => hF q h) hF (fun w t H1 locs1 ht hvm hp hB hz hk hS => ?_)
  obtain ⟨hP1, hD1⟩ := hB
  rw [ht] at hP1
  obtain ⟨hP2, hD2⟩ := cn_joinA hP hD hk hF hP1 hD1
  exact kk w H1 locs1 hp ⟨hP2, hD2, hS, hA⟩
theorem cn_blind {av : List Value} {ws0 : va_W} {sz : Nat} : FrameBlind (va_Pc av (cn_st D kA ws0 sz)) := fun a U g mk q => ⟨q.1, q.2.1, q.2.2.1, va_K.moved (u := U) (U := U.calling g mk a) (Vm.Alike.refl U.vm) q.2.2.2.1, q.2.2.2.2.1, q.2.2.2.2.2.blind rfl⟩
theorem cn_pre {av : List Value} {wc : va_W} (hC : cn_C D kA p m c cc nL s args own) (hI : cn_I D A (ws ++ wc) s H locs) : ∀ U : State, U.heap = H → s.WarmedH U.vm → va_Pc av (cn_st D kA wc H.size) av.toArray U := fun U hU hW => by
  have ix : ∀ (k : Nat) (q : Nat × va_E), wc[k]? = some q → (ws ++ wc)[ws.length + k]? = some q := fun k q h => by rw [List.getElem?_append_right (by omega), Nat.add_sub_cancel_left]; exact h
  exact ⟨rfl, by rw [hU], by rw [hU]; exact fun k q h => hI.1 _ q (ix k q h), va_K.moved hW.alike hC.2.1, ⟨fun i j x y hx hy hxy => by
    have := hI.2.1.1 _ _ x y (ix i x hx) (ix j y hy) hxy
    omega, fun _ _ _ => trivial⟩, hC.2.2.to hW⟩
/-- what a constructor's call needs -/
def cn_mc (y : MethodName) (bytes : ByteArray) (maxL n : Nat) : Prop := Cond.code y bytes maxL none ∈ fm_tb ∧ Cond.initialized y.cls ∈ fm_tb ∧ Cond.instanceMethod y ∈ fm_tb ∧ y.name = "<init>" ∧ (y.cls ≠ "java/lang/invoke/MethodHandle" ∧ y.cls ≠ "java/lang/invoke/VarHandle" ∧ (parseMethodDescriptor y.desc).map (fun d => d.parameters.length) = some n)
theorem cn_runN {y : MethodName} {bytes : ByteArray} {maxL n index mc ms h0 : Nat} {rm : Room} {As st0 : List Value} {wc : va_W} {Qc : Array Value → State → Outcome → State → Prop} {free : Addr → Prop} (hC : cn_C D kA p m c cc nL s args own) (hI : cn_I D A (ws ++ wc) s H locs) (hM : Met l y (fm_w y bytes maxL none) rm (va_Pc (.ref h0 :: As) (cn_st D kA wc H.size)) Qc mc ms free) (hm : cn_mc y bytes maxL n) (hl : (own, index, y) ∈ cn_nl) (hrm : rm.cells = mc ∧ rm.slots = ms) (hR : rm.frames + 1 ≤ R.frames ∧ 8 + (maxL + 11) + rm.locals ≤ R.locals)
    (hn : As.length = n) (hsz : ls.size = nL) (hst : st0 = As.reverse ++ .ref h0 :: rest) (hW : (rest.map fun v => v.category).sum ≤ 8) (hdg : decode cc pc = .ok (.invokespecial index, 3)) (hf : cells + mc ≤ R.cells ∧ slots + ms ≤ R.slots) :
    va_Run p l e R s m args below meth c H locs cells slots mc ms (F0 m pc ls st0) rest (Qc (Value.ref h0 :: As).toArray) free := by
  obtain ⟨m1, m2, m3, m4, m5⟩ := hm
  exact va_runIN hC.1 hM ⟨va_cnB n hC.1.2.2.2.2 (fm_goodC m1) rfl hrm.1 hrm.2 (hC.2.2.1 _ hl) (hC.1.2.2.2.2 _ m2) m5 hR, m4, hC.1.2.2.2.2 _ m3⟩ ⟨cn_blind, cn_pre hC hI⟩ rfl hn hsz hst (lv_room hW) hdg hf
theorem cn_runI {y : MethodName} {bytes : ByteArray} {maxL n index mc ms h0 : Nat} {rm : Room} {As st0 : List Value} {wc : va_W} {Qc : Array Value → State → Outcome → State → Prop} {free : Addr → Prop} (hC : cn_C D kA p m c cc nL s args own) (hI : cn_I D A (ws ++ wc) s H locs) (hM : Met l y (fm_w y bytes maxL none) rm (va_Pc (.ref h0 :: As) (cn_st D kA wc H.size)) Qc mc ms free) (hm : cn_mc y bytes maxL n) (hl : Cond.methodLink own index y ∈ fm_tb) (hrm : rm.cells = mc ∧ rm.slots = ms) (hR : rm.frames + 1 ≤ R.frames ∧ 8 + (maxL + 11) + rm.locals ≤ R.locals)
    (hn : As.length = n) (hsz : ls.size = nL) (hst : st0 = As.reverse ++ .ref h0 :: rest) (hW : (rest.map fun v => v.category).sum ≤ 8) (hdg : decode cc pc = .ok (.invokespecial index, 3)) (hf : cells + mc ≤ R.cells ∧ slots + ms ≤ R.slots) :
    va_Run p l e R s m args below meth c H locs cells slots mc ms (F0 m pc ls st0) rest (Qc (Value.ref h0 :: As).toArray) free := by
  obtain ⟨m1, m2, m3, m4, m5⟩ := hm
  have hts := hC.1.2.2.2.2
  exact va_runI hC.1 hM (cwI n hts (fm_goodC m1) rfl hrm.1 hrm.2 (hts _ m2) (hts _ hl) (hts _ m3) m4 m5 hR) ⟨cn_blind, cn_pre hC hI⟩ rfl hn hsz hst (lv_room hW) hdg hf
/-- a class that is made -/
def cn_cf (C : String) (T : u_T) (N ci : Nat) (ty : Nat → FieldType) (fs : List Value) : Prop := vwCl[ci]? = some (C, T, N) ∧ (∀ w ∈ u_ws C T N, w ∈ fm_tb) ∧ (∀ k, k < N → parseFieldDescriptor (T k).2.2.1 = some (ty k)) ∧ (∀ j, j < N → defaultValue (ty j) = vp_V fs j) ∧ Cond.instantiable C N ∈ fm_tb ∧ Cond.initialized C ∈ fm_tb
theorem cn_new {C : String} {T : u_T} {N ci index : Nat} {ty : Nat → FieldType} {fs : List Value} (hC : cn_C D kA p m c cc nL s args own) (hI : cn_I D A ws s H locs) (hf : cn_cf C T N ci ty fs) (hl : Cond.classLink own index C ∈ fm_tb) (hcells : cells + 1 ≤ R.cells) (hslots : slots + N ≤ R.slots) (hdg : decode cc pc = .ok (.new index, 3))
    (kk : ∀ (q : Nat) (H1 : Heap), cn_I D A (ws ++ [(q, .inr (ci, fs))]) s H1 locs → W p l e R s m args below meth c H1 locs (cells + 1) (slots + N) Q (F0 m (pc + 3) ls (.ref q :: rest))) : W p l e R s m args below meth c H locs cells slots Q (F0 m pc ls rest) := by
  obtain ⟨⟨hx, hb, hml, hown, hts⟩, hK, hN9⟩ := hC
  obtain ⟨hP, hD, hS, hA⟩ := hI
  obtain ⟨f1, f2, f3, f4, f5, f6⟩ := hf
  exact va_new hx hb hts f2 ty f3 hown (hts _ hl) (hts _ f5) (hts _ f6) hK hP hD hS hA f1 f4 hcells hslots hdg (fun q H1 hP hD hS => kk q H1 ⟨hP, hD, hS, hA⟩)
/-- new C(), by a nest mate -/
theorem cn_new0 {C : String} {T : u_T} {N ci i1 i2 : Nat} {ty : Nat → FieldType} {fs : List Value} {y : MethodName} {bytes : ByteArray} {maxL mc ms : Nat} {rm : Room} {post : Nat → va_W → Prop} (hC : cn_C D kA p m c cc nL s args own) (hI : cn_I D A ws s H locs) (hf : cn_cf C T N ci ty fs) (hl : Cond.classLink own i1 C ∈ fm_tb) (hM : ∀ q sz : Nat, Met l y (fm_w y bytes maxL none) rm (va_Pc [.ref q] (cn_st D kA [(q, .inr (ci, fs))] sz)) (cn_Q D [(q, .inr (ci, fs))] sz (post q)) mc ms (va_A [(q, .inr (ci, fs))] sz)) (hm : cn_mc y bytes maxL 0) (hl2 : (own, i2, y) ∈ cn_nl) (hrm : rm.cells = mc ∧ rm.slots = ms) (hR : rm.frames + 1 ≤ R.frames ∧ 8 + (maxL + 11) + rm.locals ≤ R.locals) (hsz : ls.size = nL) (hW : (rest.map fun v => v.category).sum ≤ 7) (hcs : cells + 1 + mc ≤ R.cells ∧ slots + N + ms ≤ R.slots)
    (d1 : decode cc pc = .ok (.new i1, 3)) (d2 : decode cc (pc + 3) = .ok (.dup, 1)) (d3 : decode cc (pc + 4) = .ok (.invokespecial i2, 3))
    (kk : ∀ (q : Nat) (w : va_W) (H1 : Heap) (locs1 : List Loc), post q w → cn_I D A (ws ++ w) s H1 locs1 → W p l e R s m args below meth c H1 locs1 (cells + 1 + mc) (slots + N + ms) Q (F0 m (pc + 7) ls (.ref q :: rest))) : W p l e R s m args below meth c H locs cells slots Q (F0 m pc ls rest) := by
  refine cn_new hC hI hf hl (by omega) (by omega) d1 (fun q H1 hI => ?_)
  refine lv_dup hC.1.1 hC.1.2.1 d2 rfl ?_
  refine cn_ret hI (cn_runN (As := []) (rest := .ref q :: rest) hC hI (hM q H1.size) hm hl2 hrm hR rfl hsz rfl (by simp only [List.map_cons, List.sum_cons]; exact Nat.le_trans (Nat.add_le_add_left hW 1) (Nat.le_refl 8)) d3 hcs) (fun w H1 locs1 hp hI => ?_)
  exact kk q w H1 locs1 hp hI
end CN
/-- a constructor's contract out of its walk -/
theorem cn_mth {l : Launch} {D : va_G} {kA : Nat → ClassId} {ws0 : va_W} {sz mc ms : Nat} {y : MethodName} {bytes : ByteArray} {maxL : Nat} {ret : Option FieldType} {rm : Room} {av : List Value} {own : String} {Qc : Array Value → State → Outcome → State → Prop} (ho : y.cls = own) (hy : plainName y.cls = true) (hL : (lg_sl av).length ≤ maxL)
    (K : ∀ (p : Program) (e : Env) (s : State) (m : MethodId) (below : List Frame) (meth : Method) (c : Code) (ls : Array Slot), cn_C D kA p m c bytes maxL s av.toArray own → meth.sig.returnType = ret → meth.locks = false → meth.name = y.name → sz = s.heap.size → cn_I D (va_A ws0 s.heap.size) ws0 s s.heap [] → lv_has ls maxL (lv_args 0 av) → W p l e rm s m av.toArray below meth c s.heap [] 0 0 (MQ below Qc av.toArray s mc ms (va_A ws0 sz)) (F0 m 0 ls [])) :
    Met l y (fm_w y bytes maxL ret) rm (va_Pc av (cn_st D kA ws0 sz)) Qc mc ms (va_A ws0 sz) := by
  refine Met.ofW (cc := bytes) (maxL := maxL) (ret := ret) hy rfl ?_
  intro p e s m args below meth c s₁ B hml hv
  obtain ⟨rfl, hsz, hP, hK, hD, hN⟩ := hv
  have hts := atoms_spec (ws := fm_w y bytes maxL ret) B.pre
  have hown : s.vm.findClass y.cls = some m.cls := findClass_of_methodNamed B.named
  rw [ho] at hown
  have hl := lv_entry av (n := maxL) hL
  rw [lg_entry_eq]
  exact K p e s m below meth c _ ⟨⟨B.exec, B.bytes, hml, hown, fun w h => hts w (List.mem_cons_of_mem _ h)⟩, hK, hN⟩ B.returns B.notSynchronized (name_of_methodNamed B.named B.method).1 hsz.symm ⟨hP, hD.self, va_S.rf, fun q h => Or.inr h⟩ hl
