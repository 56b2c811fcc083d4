/-! THE START: what the tables and the premises say -/
theorem lt_in {w : Cond} (n : Nat) (h : tables_1[n]? = some w) : w ∈ lw_tbl := List.mem_append_right _ (List.mem_of_getElem? h)
theorem st_D {s : State} {args : Array Value} (hts : ∀ w ∈ fm_tb, w.before args s = true) : ∃ D : va_G, ∀ (k : Nat) (q : vw_C), vwCl[k]? = some q → u_Kn s q.1 q.2.1 q.2.2 (D.1 k) (D.2 k) := by
  have h0 : ∀ k : Nat, ∃ x : ClassId × (Nat → Nat), ∀ q : vw_C, vwCl[k]? = some q → u_Kn s q.1 q.2.1 q.2.2 x.1 x.2 := by
    intro k
    by_cases hk : k < 13
    · have h : k = 0 ∨ k = 1 ∨ k = 2 ∨ k = 3 ∨ k = 4 ∨ k = 5 ∨ k = 6 ∨ k = 7 ∨ k = 8 ∨ k = 9 ∨ k = 10 ∨ k = 11 ∨ k = 12 := by omega
      rcases h with rfl | rfl | rfl | rfl | rfl | rfl | rfl | rfl | rfl | rfl | rfl | rfl | rfl
      · obtain ⟨c, i, h⟩ := u_known (C := RX0) (T := TX0) (N := 0) (n := 0) hts cf_X0.2.1 (hts _ cf_X0.2.2.2.2.1)
        exact ⟨(c, i), fun q hq => by cases hq; exact h⟩
      · obtain ⟨c, i, h⟩ := u_known (C := RX1) (T := TX1) (N := 0) (n := 0) hts cf_X1.2.1 (hts _ cf_X1.2.2.2.2.1)
        exact ⟨(c, i), fun q hq => by cases hq; exact h⟩
      · obtain ⟨c, i, h⟩ := u_known (C := RX2) (T := TX2) (N := 0) (n := 0) hts cf_X2.2.1 (hts _ cf_X2.2.2.2.2.1)
        exact ⟨(c, i), fun q hq => by cases hq; exact h⟩
      · obtain ⟨c, i, h⟩ := u_known (C := RX3) (T := TX3) (N := 0) (n := 0) hts cf_X3.2.1 (hts _ cf_X3.2.2.2.2.1)
        exact ⟨(c, i), fun q hq => by cases hq; exact h⟩
      · obtain ⟨c, i, h⟩ := u_known (C := RX4) (T := TX4) (N := 0) (n := 0) hts cf_X4.2.1 (hts _ cf_X4.2.2.2.2.1)
        exact ⟨(c, i), fun q hq => by cases hq; exact h⟩
      · obtain ⟨c, i, h⟩ := u_known (C := RX5) (T := TX5) (N := 2) (n := 2) hts cf_X5.2.1 (hts _ cf_X5.2.2.2.2.1)
        exact ⟨(c, i), fun q hq => by cases hq; exact h⟩
      · obtain ⟨c, i, h⟩ := u_known (C := RX6) (T := TX6) (N := 0) (n := 0) hts cf_X6.2.1 (hts _ cf_X6.2.2.2.2.1)
        exact ⟨(c, i), fun q hq => by cases hq; exact h⟩
      · obtain ⟨c, i, h⟩ := u_known (C := RX7) (T := TX7) (N := 5) (n := 5) hts cf_X7.2.1 (hts _ cf_X7.2.2.2.2.1)
        exact ⟨(c, i), fun q hq => by cases hq; exact h⟩
      · obtain ⟨c, i, h⟩ := u_known (C := RX8) (T := TX8) (N := 3) (n := 3) hts cf_X8.2.1 (hts _ cf_X8.2.2.2.2.1)
        exact ⟨(c, i), fun q hq => by cases hq; exact h⟩
      · obtain ⟨c, i, h⟩ := u_known (C := RX9) (T := TX9) (N := 6) (n := 6) hts cf_X9.2.1 (hts _ cf_X9.2.2.2.2.1)
        exact ⟨(c, i), fun q hq => by cases hq; exact h⟩
      · obtain ⟨c, i, h⟩ := u_known (C := RX10) (T := TX10) (N := 6) (n := 6) hts cf_X10.2.1 (hts _ cf_X10.2.2.2.2.1)
        exact ⟨(c, i), fun q hq => by cases hq; exact h⟩
      · obtain ⟨c, i, h⟩ := u_known (C := RX11) (T := TX11) (N := 8) (n := 8) hts cf_X11.2.1 (hts _ cf_X11.2.2.2.2.1)
        exact ⟨(c, i), fun q hq => by cases hq; exact h⟩
      · obtain ⟨c, i, h⟩ := u_known (C := RX12) (T := TX12) (N := 20) (n := 20) hts cf_X12.2.1 (hts _ cf_X12.2.2.2.2.1)
        exact ⟨(c, i), fun q hq => by cases hq; exact h⟩
    · exact ⟨(0, fun _ => 0), fun q hq => absurd (List.getElem?_eq_some_iff.mp hq).1 hk⟩
  obtain ⟨f, hf⟩ := Classical.axiomOfChoice h0
  exact ⟨(fun k => (f k).1, fun k => (f k).2), hf⟩
theorem st_aP {s : State} {args : Array Value} {ty : FieldType} (h : (Cond.arrayClass ty).before args s = true) : ∃ cA : ClassId, ArrOfT s cA ty ∧ s.vm.findClass ("[" ++ ty.toString) = some cA := by
  obtain ⟨cA, kA, comp, h1, h2, h3⟩ := Cond.arrayClass_spec h
  exact ⟨cA, fun n z => ⟨fun k h => (by cases h), kA, h2, comp, h3⟩, h1⟩
theorem st_aO {s : State} {C : String} (h : va_AO C s) : ∃ cA : ClassId, ArrOfT s cA (.object C) ∧ va_RA s cA (.object C) := by
  obtain ⟨comp, cA, kA, h1, -, h2, h3, h4⟩ := Cond.arrayOver_spec h
  exact ⟨cA, fun n z => ⟨fun k h => (by cases h), kA, h2, comp, h3⟩, kA, comp, h2, h3, h1, h4⟩
theorem st_K {s : State} {args : Array Value} {D : va_G} (hts : ∀ w ∈ fm_tb, w.before args s = true) (hao : ∀ C ∈ cn_ao, va_AO C s) (hD : ∀ (k : Nat) (q : vw_C), vwCl[k]? = some q → u_Kn s q.1 q.2.1 q.2.2 (D.1 k) (D.2 k)) : ∃ kA : Nat → ClassId, va_K D vwCl (cn_ty kA) s := by
  obtain ⟨c13, a13, b13⟩ := st_aP (ty := .char) (hts _ q_859)
  obtain ⟨c14, a14, b14⟩ := st_aP (ty := .int) (hts _ q_130)
  obtain ⟨c15, a15, b15⟩ := st_aP (ty := .long) (hts _ q_178)
  obtain ⟨c16, a16⟩ := st_aO (hao "WrapGifts$Man" (List.mem_of_getElem? (i := 0) rfl))
  obtain ⟨c17, a17⟩ := st_aO (hao "WrapGifts$Person" (List.mem_of_getElem? (i := 1) rfl))
  obtain ⟨c18, a18⟩ := st_aO (hao "WrapGifts$Present" (List.mem_of_getElem? (i := 2) rfl))
  obtain ⟨c19, a19⟩ := st_aO (hao "WrapGifts$Sheet" (List.mem_of_getElem? (i := 3) rfl))
  refine ⟨fun k => if k = 13 then c13 else if k = 14 then c14 else if k = 15 then c15 else if k = 16 then c16 else if k = 17 then c17 else if k = 18 then c18 else c19, hD, fun k q hq => ?_⟩
  match k, hq with
  | 0, hq => cases hq; exact ⟨a13, b13⟩
  | 1, hq => cases hq; exact ⟨a14, b14⟩
  | 2, hq => cases hq; exact ⟨a15, b15⟩
  | 3, hq => cases hq; exact a16
  | 4, hq => cases hq; exact a17
  | 5, hq => cases hq; exact a18
  | 6, hq => cases hq; exact a19
  | k + 7, hq => simp [cn_ty] at hq
theorem sn_0 : Cond.methodLinkNest (cn_nl.getD 0 ("", 0, objectInit)).1 (cn_nl.getD 0 ("", 0, objectInit)).2.1 (cn_nl.getD 0 ("", 0, objectInit)).2.2 "WrapGifts" ∈ lw_tbl := lt_in 35 (by decide +kernel)
theorem sn_1 : Cond.methodLinkNest (cn_nl.getD 1 ("", 0, objectInit)).1 (cn_nl.getD 1 ("", 0, objectInit)).2.1 (cn_nl.getD 1 ("", 0, objectInit)).2.2 "WrapGifts" ∈ lw_tbl := lt_in 42 (by decide +kernel)
theorem sn_2 : Cond.methodLinkNest (cn_nl.getD 2 ("", 0, objectInit)).1 (cn_nl.getD 2 ("", 0, objectInit)).2.1 (cn_nl.getD 2 ("", 0, objectInit)).2.2 "WrapGifts" ∈ lw_tbl := lt_in 45 (by decide +kernel)
theorem sn_3 : Cond.methodLinkNest (cn_nl.getD 3 ("", 0, objectInit)).1 (cn_nl.getD 3 ("", 0, objectInit)).2.1 (cn_nl.getD 3 ("", 0, objectInit)).2.2 "WrapGifts" ∈ lw_tbl := lt_in 49 (by decide +kernel)
theorem sn_4 : Cond.methodLinkNest (cn_nl.getD 4 ("", 0, objectInit)).1 (cn_nl.getD 4 ("", 0, objectInit)).2.1 (cn_nl.getD 4 ("", 0, objectInit)).2.2 "WrapGifts" ∈ lw_tbl := lt_in 52 (by decide +kernel)
theorem sn_5 : Cond.methodLinkNest (cn_nl.getD 5 ("", 0, objectInit)).1 (cn_nl.getD 5 ("", 0, objectInit)).2.1 (cn_nl.getD 5 ("", 0, objectInit)).2.2 "WrapGifts" ∈ lw_tbl := lt_in 56 (by decide +kernel)
theorem sn_6 : Cond.methodLinkNest (cn_nl.getD 6 ("", 0, objectInit)).1 (cn_nl.getD 6 ("", 0, objectInit)).2.1 (cn_nl.getD 6 ("", 0, objectInit)).2.2 "WrapGifts" ∈ lw_tbl := lt_in 59 (by decide +kernel)
theorem sn_7 : Cond.methodLinkNest (cn_nl.getD 7 ("", 0, objectInit)).1 (cn_nl.getD 7 ("", 0, objectInit)).2.1 (cn_nl.getD 7 ("", 0, objectInit)).2.2 "WrapGifts" ∈ lw_tbl := lt_in 63 (by decide +kernel)
theorem sn_8 : Cond.methodLinkNest (cn_nl.getD 8 ("", 0, objectInit)).1 (cn_nl.getD 8 ("", 0, objectInit)).2.1 (cn_nl.getD 8 ("", 0, objectInit)).2.2 "WrapGifts" ∈ lw_tbl := lt_in 66 (by decide +kernel)
theorem sn_9 : Cond.methodLinkNest (cn_nl.getD 9 ("", 0, objectInit)).1 (cn_nl.getD 9 ("", 0, objectInit)).2.1 (cn_nl.getD 9 ("", 0, objectInit)).2.2 "WrapGifts" ∈ lw_tbl := lt_in 70 (by decide +kernel)
theorem sn_10 : Cond.methodLinkNest (cn_nl.getD 10 ("", 0, objectInit)).1 (cn_nl.getD 10 ("", 0, objectInit)).2.1 (cn_nl.getD 10 ("", 0, objectInit)).2.2 "WrapGifts" ∈ lw_tbl := lt_in 73 (by decide +kernel)
theorem sn_11 : Cond.methodLinkNest (cn_nl.getD 11 ("", 0, objectInit)).1 (cn_nl.getD 11 ("", 0, objectInit)).2.1 (cn_nl.getD 11 ("", 0, objectInit)).2.2 "WrapGifts" ∈ lw_tbl := lt_in 84 (by decide +kernel)
theorem sn_12 : Cond.methodLinkNest (cn_nl.getD 12 ("", 0, objectInit)).1 (cn_nl.getD 12 ("", 0, objectInit)).2.1 (cn_nl.getD 12 ("", 0, objectInit)).2.2 "WrapGifts" ∈ lw_tbl := lt_in 102 (by decide +kernel)
theorem sn_13 : Cond.methodLinkNest (cn_nl.getD 13 ("", 0, objectInit)).1 (cn_nl.getD 13 ("", 0, objectInit)).2.1 (cn_nl.getD 13 ("", 0, objectInit)).2.2 "WrapGifts" ∈ lw_tbl := lt_in 161 (by decide +kernel)
theorem sn_14 : Cond.methodLinkNest (cn_nl.getD 14 ("", 0, objectInit)).1 (cn_nl.getD 14 ("", 0, objectInit)).2.1 (cn_nl.getD 14 ("", 0, objectInit)).2.2 "WrapGifts" ∈ lw_tbl := lt_in 181 (by decide +kernel)
theorem sa_0 : Cond.arrayOver (.object "WrapGifts$Man") ∈ lw_tbl := lt_in 33 (by decide +kernel)
theorem sa_1 : Cond.arrayOver (.object "WrapGifts$Person") ∈ lw_tbl := lt_in 82 (by decide +kernel)
theorem sa_2 : Cond.arrayOver (.object "WrapGifts$Present") ∈ lw_tbl := lt_in 100 (by decide +kernel)
theorem sa_3 : Cond.arrayOver (.object "WrapGifts$Sheet") ∈ lw_tbl := lt_in 159 (by decide +kernel)
theorem sc_0 : Cond.castable "WrapGifts$Aunt" "WrapGifts$Man" ∈ lw_tbl := lt_in 1226 (by decide +kernel)
theorem sc_1 : Cond.castable "WrapGifts$Child" "WrapGifts$Man" ∈ lw_tbl := lt_in 1227 (by decide +kernel)
theorem sc_2 : Cond.castable "WrapGifts$Poor" "WrapGifts$Man" ∈ lw_tbl := lt_in 1228 (by decide +kernel)
theorem sc_3 : Cond.castable "WrapGifts$Girl" "WrapGifts$Man" ∈ lw_tbl := lt_in 1229 (by decide +kernel)
theorem sc_4 : Cond.castable "WrapGifts$Clerk" "WrapGifts$Man" ∈ lw_tbl := lt_in 1230 (by decide +kernel)
theorem st_N {s : State} {args : Array Value} (hts : ∀ w ∈ lw_tbl, w.before args s = true) : cn_N s := by
  refine ⟨?_, ?_, ?_⟩
  · exact List.forall_mem_cons.mpr ⟨va_Nw.of rfl (hts _ sn_0), List.forall_mem_cons.mpr ⟨va_Nw.of rfl (hts _ sn_1), List.forall_mem_cons.mpr ⟨va_Nw.of rfl (hts _ sn_2), List.forall_mem_cons.mpr ⟨va_Nw.of rfl (hts _ sn_3), List.forall_mem_cons.mpr ⟨va_Nw.of rfl (hts _ sn_4), List.forall_mem_cons.mpr ⟨va_Nw.of rfl (hts _ sn_5), List.forall_mem_cons.mpr ⟨va_Nw.of rfl (hts _ sn_6), List.forall_mem_cons.mpr ⟨va_Nw.of rfl (hts _ sn_7), List.forall_mem_cons.mpr ⟨va_Nw.of rfl (hts _ sn_8), List.forall_mem_cons.mpr ⟨va_Nw.of rfl (hts _ sn_9), List.forall_mem_cons.mpr ⟨va_Nw.of rfl (hts _ sn_10), List.forall_mem_cons.mpr ⟨va_Nw.of rfl (hts _ sn_11), List.forall_mem_cons.mpr ⟨va_Nw.of rfl (hts _ sn_12), List.forall_mem_cons.mpr ⟨va_Nw.of rfl (hts _ sn_13), List.forall_mem_cons.mpr ⟨va_Nw.of rfl (hts _ sn_14), fun _ h => absurd h List.not_mem_nil⟩⟩⟩⟩⟩⟩⟩⟩⟩⟩⟩⟩⟩⟩⟩
  · exact List.forall_mem_cons.mpr ⟨va_AO.of (hts _ sa_0), List.forall_mem_cons.mpr ⟨va_AO.of (hts _ sa_1), List.forall_mem_cons.mpr ⟨va_AO.of (hts _ sa_2), List.forall_mem_cons.mpr ⟨va_AO.of (hts _ sa_3), fun _ h => absurd h List.not_mem_nil⟩⟩⟩⟩
  · exact List.forall_mem_cons.mpr ⟨va_Nw.of rfl (hts _ sc_0), List.forall_mem_cons.mpr ⟨va_Nw.of rfl (hts _ sc_1), List.forall_mem_cons.mpr ⟨va_Nw.of rfl (hts _ sc_2), List.forall_mem_cons.mpr ⟨va_Nw.of rfl (hts _ sc_3), List.forall_mem_cons.mpr ⟨va_Nw.of rfl (hts _ sc_4), fun _ h => absurd h List.not_mem_nil⟩⟩⟩⟩⟩
-- the premises on texts
def tmS (i : Nat) : Term := Term.string "WrapGifts$Tape" (fm_tk.getD i 0)
theorem fx_ex : ∀ i, i < 12 → Cond.exactly (tmS i) "java/lang/String" ∈ flatC (Jvm.Cond.and given_1 narrow_1) := by decide +kernel
theorem fx_co : ∀ i, i < 12 → Cond.eq (.field (tmS i) "java/lang/String" "coder" "B") (.int 0) ∈ flatC (Jvm.Cond.and given_1 narrow_1) := by decide +kernel
theorem fx_ar : ∀ i, i < 12 → Cond.arrayOf (.field (tmS i) "java/lang/String" "value" "[B") .byte ∈ flatC (Jvm.Cond.and given_1 narrow_1) := by decide +kernel
theorem fx_le : ∀ i, i < 12 → Cond.eq (.length (.field (tmS i) "java/lang/String" "value" "[B")) (.int (Int32.ofNat (fm_tl.getD i 0))) ∈ flatC (Jvm.Cond.and given_1 narrow_1) := by decide +kernel
theorem fx_el : ∀ i, i < 12 → ∀ j, j < fm_tl.getD i 0 → Cond.eq (.elem (.field (tmS i) "java/lang/String" "value" "[B") (.int (Int32.ofNat j))) (.int ((fm_tby.getD i []).getD j 0)) ∈ flatC (Jvm.Cond.and given_1 narrow_1) := by decide +kernel
theorem fx_ne : ∀ j, j < 12 → ∀ i, i < j → Cond.not (Cond.eq (tmS i) (tmS j)) ∈ flatC (Jvm.Cond.and given_1 narrow_1) := by decide +kernel
theorem fx_nc : ∀ q ∈ fm_nc, Cond.not (.castable q.1 q.2) ∈ flatC (Jvm.Cond.and given_1 narrow_1) := by decide +kernel
theorem fx_cs : Cond.eq (.static "java/lang/String" "COMPACT_STRINGS" "Z") (.int 1) ∈ flatC (Jvm.Cond.and given_1 narrow_1) := by decide +kernel
theorem fx_si : Cond.isRef (.static "jdk/internal/util/Preconditions" "SIOOBE_FORMATTER" "Ljava/util/function/BiFunction;") ∈ flatC (Jvm.Cond.and given_1 narrow_1) := by decide +kernel
theorem fx_t1 : Cond.laysStatic "java/lang/String" "COMPACT_STRINGS" "Z" ∈ lw_tbl := lt_in 649 (by decide +kernel)
theorem fx_t2 : Cond.initialized "java/lang/String" ∈ lw_tbl := lt_in 15 (by decide +kernel)
theorem fx_t3 : Cond.laysStatic "jdk/internal/util/Preconditions" "SIOOBE_FORMATTER" "Ljava/util/function/BiFunction;" ∈ lw_tbl := lt_in 665 (by decide +kernel)
theorem fx_t4 : Cond.initialized "jdk/internal/util/Preconditions" ∈ lw_tbl := lt_in 17 (by decide +kernel)
theorem fx_y0 : Cond.castable "WrapGifts$Clerk" "WrapGifts$Aunt" ∈ lw_tbl := lt_in 1224 (by decide +kernel)
theorem fx_y1 : Cond.castable "WrapGifts$Girl" "WrapGifts$Child" ∈ lw_tbl := lt_in 1225 (by decide +kernel)
theorem fx_sr : ∀ i, i < 12 → tables_1[624 + i]? = some (Cond.stringRef "WrapGifts$Tape" (fm_tk.getD i 0) (fm_tx.getD i "")) := by decide +kernel
theorem fx_tl : ∀ i, i < 12 → fm_tl.getD i 0 < 2 ^ 31 := by decide +kernel
theorem st_X {s : State} {args : Array Value} (hts : ∀ w ∈ lw_tbl, w.before args s = true) (hgv : (Jvm.Cond.and given_1 narrow_1).before args s = true) : ∃ adK adV : Nat → Nat, ∀ (D : va_G) (ad : Nat → Nat) (kA : Nat → ClassId), (∀ q, fm_A (D, ad, kA, adK, adV) q → s.heap.size ≤ q) → fm_X (D, ad, kA, adK, adV) s := by
  have hs := flat_of_before _ hgv
  have hA : ∀ a : Nat, a < s.heap.size → ¬ (fun q : Nat => s.heap.size ≤ q) a := fun a h => Nat.not_le.mpr h
  obtain ⟨adK, adV, h1, h2⟩ := vk_Sof (N := 12) (tm := tmS) (len := fm_tl) (byt := fm_tby) (A := fun q : Nat => s.heap.size ≤ q) fx_tl (fun i hi => hs _ (fx_ex i hi)) (fun i hi => hs _ (fx_co i hi)) (fun i hi => hs _ (fx_ar i hi)) (fun i hi => hs _ (fx_le i hi)) (fun i hi j hj => hs _ (fx_el i hi j hj)) (fun i j hi hj hij => by
    rcases Nat.lt_or_gt_of_ne hij with h | h
    · exact Or.inl (hs _ (fx_ne j hj i h))
    · exact Or.inr (hs _ (fx_ne i hi j h))) hA
  refine ⟨adK, adV, fun D ad kA hq => ⟨h1.narrow hq, fun i hi => ?_, ?_, ?_, fun q hm => va_Nc.of (hs _ (fx_nc q hm)), ?_⟩⟩
  · exact vk_R.of (hts _ (lt_in (624 + i) (fx_sr i hi))) (h2 i hi)
  · exact (va_Zof (hts _ fx_t1) (hts _ fx_t2) (va_eqt (hs _ fx_cs)) hA).narrow hq
  · exact (va_Zqof (hts _ fx_t3) (hts _ fx_t4) (hs _ fx_si) hA).narrow hq
  · exact List.forall_mem_cons.mpr ⟨va_Nw.of rfl (hts _ fx_y0), List.forall_mem_cons.mpr ⟨va_Nw.of rfl (hts _ fx_y1), fun _ h => absurd h List.not_mem_nil⟩⟩
