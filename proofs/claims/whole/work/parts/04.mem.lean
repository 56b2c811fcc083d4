/-! THE FLAT MEMORY: behind the two constructors the heap has one fixed shape of 110 cells; what changes is ints and longs, told by (cell, place). -/
abbrev fm_M : Type := (Nat → Nat → Int32) × (Nat → Nat → Int64)
abbrev fm_G : Type := va_G × (Nat → Nat) × (Nat → ClassId) × (Nat → Nat) × (Nat → Nat)
def fm_sI (σ : fm_M) (i k : Nat) (v : Int32) : fm_M := (fun a => if a = i then upd (σ.1 a) k v else σ.1 a, σ.2)
def fm_sL (σ : fm_M) (i k : Nat) (v : Int64) : fm_M := (σ.1, fun a => if a = i then vp_updL (σ.2 a) k v else σ.2 a)
-- the kind of each cell: below 13 an object of that class of vwCl; 13 char[], 14 int[], 15 long[], 16 Man[], 17 Person[], 18 Present[], 19 Sheet[]
def fm_town : List Nat := [10, 17, 5, 5, 5, 5, 5, 5, 18, 7, 14, 7, 14, 7, 14, 7, 14, 7, 14, 7, 14, 7, 14, 7, 14]
def fm_ctL : List Nat := [11, 16, 4, 0, 1, 6, 3, 2] ++ (fm_town ++ (fm_town ++ (fm_town ++ [19, 8, 15, 8, 15, 8, 15, 8, 15, 9, 14, 14, 14, 12, 14, 14, 14, 14, 14, 14, 13, 13, 13, 14, 14, 15, 15])))
def fm_ct (i : Nat) : Nat := fm_ctL.getD i 99
def fm_lnT : List Nat := [0, 6, 0, 0, 0, 0, 0, 0, 8, 0, 6, 0, 6, 0, 6, 0, 6, 0, 6, 0, 6, 0, 6, 0, 6]
def fm_lnL : List Nat := [0, 6, 0, 0, 0, 0, 0, 0] ++ (fm_lnT ++ (fm_lnT ++ (fm_lnT ++ [4, 0, 40, 0, 40, 0, 40, 0, 40, 0, 120, 7, 6, 0, 96, 96, 96, 7, 5, 120, 48, 16, 32, 4, 4, 160, 40])))
def fm_ln (i : Nat) : Nat := fm_lnL.getD i 0
/-- the cell that a place of a cell names: it never changes -/
def fm_rf (i k : Nat) : Nat :=
  if fm_ct i = 16 then 2 + k else if fm_ct i = 17 then i + 1 + k else if fm_ct i = 18 then i + 1 + 2 * k else if fm_ct i = 19 then i + 1 + 2 * k
  else if fm_ct i = 7 then i + 1 else if fm_ct i = 8 then i + 1 else if fm_ct i = 9 then i + 1
  else if fm_ct i = 10 then (if k = 0 then 1 else if k = 1 then i + 1 else i + 8)
  else if fm_ct i = 11 then [8, 33, 58, 0, 83, 92, 94, 95].getD k 0
  else [97, 98, 99, 0, 100, 0, 101, 102, 0, 0, 0, 0, 0, 103, 104, 105, 106, 107, 108, 109].getD k 0
/-- the kinds of a class's fields: 0 int, 1 long, 2 a cell -/
def fm_fk (c : Nat) : List Nat :=
  if c = 5 then [0, 0] else if c = 7 then [2, 0, 0, 0, 0] else if c = 8 then [2, 0, 0] else if c = 9 then [2, 0, 0, 0, 0, 0] else if c = 10 then [2, 2, 2, 0, 0, 0]
  else if c = 11 then [2, 2, 2, 0, 2, 2, 2, 2] else if c = 12 then [2, 2, 2, 0, 2, 0, 2, 2, 0, 0, 0, 0, 1, 2, 2, 2, 2, 2, 2, 2] else []
def fm_fv (G : fm_G) (fi : Nat → Int32) (fl : Nat → Int64) (i t k : Nat) : Value := if t = 0 then .int (fi k) else if t = 1 then .long (fl k) else .ref (G.2.1 (fm_rf i k))
def fm_fs (G : fm_G) (fi : Nat → Int32) (fl : Nat → Int64) (i c : Nat) : List Value := (List.range (fm_fk c).length).map (fun k => fm_fv G fi fl i ((fm_fk c).getD k 9) k)
def fm_cx (G : fm_G) (fi : Nat → Int32) (fl : Nat → Int64) (i c : Nat) : va_E :=
  if c < 13 then .inr (c, fm_fs G fi fl i c) else if c < 15 then .inl (G.2.2.1 c, fm_ln i, .inl fi) else if c = 15 then .inl (G.2.2.1 c, fm_ln i, .inr (.inl fl))
  else .inl (G.2.2.1 c, fm_ln i, .inr (.inr (.inr (.inr (fun j => some (G.2.1 (fm_rf i j)))))))
def fm_ce (G : fm_G) (σ : fm_M) (i : Nat) : va_E := fm_cx G (σ.1 i) (σ.2 i) i (fm_ct i)
def fm_wl (G : fm_G) (σ : fm_M) : va_W := (List.range 110).map (fun i => (G.2.1 i, fm_ce G σ i))
def fm_ty (G : fm_G) : List (ClassId × FieldType) := [(G.2.2.1 13, .char), (G.2.2.1 14, .int), (G.2.2.1 15, .long), (G.2.2.1 16, .object "WrapGifts$Man"), (G.2.2.1 17, .object "WrapGifts$Person"), (G.2.2.1 18, .object "WrapGifts$Present"), (G.2.2.1 19, .object "WrapGifts$Sheet")]
def fm_A (G : fm_G) : Nat → Prop := fun q => ∃ i, i < 110 ∧ q = G.2.1 i
def fm_J (G : fm_G) : Prop := ∀ i j, i < 110 → j < 110 → G.2.1 i = G.2.1 j → i = j
-- the words: all of the tables that a call may carry
def fm_tb : List Cond := lw_tbl.filter goodWord
theorem fm_in {w : Cond} (n : Nat) (h : tables_1[n]? = some w) (hg : goodWord w = true) : w ∈ fm_tb := List.mem_filter.mpr ⟨List.mem_append_right _ (List.mem_of_getElem? h), hg⟩
theorem fm_inS {w : Cond} (n : Nat) (h : (k2_sels lw_privs)[n]? = some w) (hg : goodWord w = true) : w ∈ fm_tb := List.mem_filter.mpr ⟨List.mem_append_left _ (List.mem_of_getElem? h), hg⟩
theorem fm_good : GoodIn fm_tb fm_tb := fun w h => ⟨h, good_of_word (List.mem_filter.mp h).2⟩
-- the world as a list
theorem fm_at {G : fm_G} {σ : fm_M} {i : Nat} (h : i < 110) : (fm_wl G σ)[i]? = some (G.2.1 i, fm_ce G σ i) := by
  unfold fm_wl
  rw [List.getElem?_map, List.getElem?_range h]
  rfl
theorem fm_len {G : fm_G} {σ : fm_M} : (fm_wl G σ).length = 110 := by simp [fm_wl]
theorem fm_set {G : fm_G} {σ σ' : fm_M} {i : Nat} (hi : i < 110) {e : va_E} (h1 : fm_ce G σ' i = e) (h2 : ∀ j, j ≠ i → fm_ce G σ' j = fm_ce G σ j) : (fm_wl G σ).set i (G.2.1 i, e) = fm_wl G σ' := by
  apply List.ext_getElem?
  intro j
  rw [List.getElem?_set, fm_len]
  by_cases hj : j < 110
  · rw [fm_at (σ := σ') hj]
    by_cases h : i = j
    · subst h; rw [if_pos rfl, if_pos hj, h1]
    · rw [if_neg h, fm_at hj, h2 j (fun z => h z.symm)]
  · rw [if_neg (by omega), List.getElem?_eq_none (by rw [fm_len]; omega), List.getElem?_eq_none (by rw [fm_len]; omega)]
theorem fm_D {G : fm_G} (hJ : fm_J G) (σ : fm_M) : va_D (fm_A G) (fm_wl G σ) := by
  have hlt : ∀ (i : Nat) (q : Nat × va_E), (fm_wl G σ)[i]? = some q → i < 110 := fun i q h => by
    have := (List.getElem?_eq_some_iff.mp h).1
    rwa [fm_len] at this
  refine ⟨fun i j x y hx hy hxy => ?_, fun k q hq => ?_⟩
  · have h1 := hlt i x hx
    have h2 := hlt j y hy
    rw [fm_at h1] at hx
    rw [fm_at h2] at hy
    cases hx; cases hy
    exact hJ i j h1 h2 hxy
  · have h1 := hlt k q hq
    rw [fm_at h1] at hq
    cases hq
    exact ⟨k, h1, rfl⟩
theorem fm_oI {G : fm_G} {σ : fm_M} {i k : Nat} {v : Int32} : ∀ j, j ≠ i → fm_ce G (fm_sI σ i k v) j = fm_ce G σ j := fun j h => by
  unfold fm_ce fm_sI
  simp only [if_neg h]
theorem fm_oL {G : fm_G} {σ : fm_M} {i k : Nat} {v : Int64} : ∀ j, j ≠ i → fm_ce G (fm_sL σ i k v) j = fm_ce G σ j := fun j h => by
  unfold fm_ce fm_sL
  simp only [if_neg h]
theorem fm_sI_self {σ : fm_M} {i k : Nat} {v : Int32} : (fm_sI σ i k v).1 i = upd (σ.1 i) k v := by simp [fm_sI]
theorem fm_sL_self {σ : fm_M} {i k : Nat} {v : Int64} : (fm_sL σ i k v).2 i = vp_updL (σ.2 i) k v := by simp [fm_sL]
theorem fm_obj {G : fm_G} {σ : fm_M} {i c : Nat} (hc : fm_ct i = c) (h : c < 13) : fm_ce G σ i = .inr (c, fm_fs G (σ.1 i) (σ.2 i) i c) := by
  unfold fm_ce fm_cx
  rw [hc, if_pos h]
theorem fm_fs_at {G : fm_G} {fi : Nat → Int32} {fl : Nat → Int64} {i c k t : Nat} (h : (fm_fk c)[k]? = some t) : (fm_fs G fi fl i c)[k]? = some (fm_fv G fi fl i t k) := by
  unfold fm_fs
  have hk : k < (fm_fk c).length := (List.getElem?_eq_some_iff.mp h).1
  rw [List.getElem?_map, List.getElem?_range hk]
  simp [List.getD, h]
theorem fm_fs_len {G : fm_G} {fi : Nat → Int32} {fl : Nat → Int64} {i c : Nat} : (fm_fs G fi fl i c).length = (fm_fk c).length := by simp [fm_fs]
theorem fm_fs_setI {G : fm_G} {fi : Nat → Int32} {fl : Nat → Int64} {i c k : Nat} {v : Int32} (h : (fm_fk c)[k]? = some 0) : (fm_fs G fi fl i c).set k (.int v) = fm_fs G (upd fi k v) fl i c := by
  apply List.ext_getElem?
  intro j
  rw [List.getElem?_set, fm_fs_len]
  have hk : k < (fm_fk c).length := (List.getElem?_eq_some_iff.mp h).1
  by_cases hj : k = j
  · subst hj
    rw [if_pos rfl, if_pos hk, fm_fs_at h]
    simp [fm_fv, upd]
  · rw [if_neg hj]
    by_cases hl : j < (fm_fk c).length
    · have h1 : (fm_fk c)[j]? = some (fm_fk c)[j] := List.getElem?_eq_getElem hl
      rw [fm_fs_at h1, fm_fs_at h1]
      simp [fm_fv, upd, show ¬ j = k from fun z => hj z.symm]
    · rw [List.getElem?_eq_none (by rw [fm_fs_len]; omega), List.getElem?_eq_none (by rw [fm_fs_len]; omega)]
theorem fm_fs_setL {G : fm_G} {fi : Nat → Int32} {fl : Nat → Int64} {i c k : Nat} {v : Int64} (h : (fm_fk c)[k]? = some 1) : (fm_fs G fi fl i c).set k (.long v) = fm_fs G fi (vp_updL fl k v) i c := by
  apply List.ext_getElem?
  intro j
  rw [List.getElem?_set, fm_fs_len]
  have hk : k < (fm_fk c).length := (List.getElem?_eq_some_iff.mp h).1
  by_cases hj : k = j
  · subst hj
    rw [if_pos rfl, if_pos hk, fm_fs_at h]
    simp [fm_fv, vp_updL]
  · rw [if_neg hj]
    by_cases hl : j < (fm_fk c).length
    · have h1 : (fm_fk c)[j]? = some (fm_fk c)[j] := List.getElem?_eq_getElem hl
      rw [fm_fs_at h1, fm_fs_at h1]
      simp [fm_fv, vp_updL, show ¬ j = k from fun z => hj z.symm]
    · rw [List.getElem?_eq_none (by rw [fm_fs_len]; omega), List.getElem?_eq_none (by rw [fm_fs_len]; omega)]
theorem fm_arI {G : fm_G} {σ : fm_M} {i c : Nat} (hc : fm_ct i = c) (h1 : ¬ c < 13) (h2 : c < 15) : fm_ce G σ i = .inl (G.2.2.1 c, fm_ln i, .inl (σ.1 i)) := by
  unfold fm_ce fm_cx
  rw [hc, if_neg h1, if_pos h2]
theorem fm_arL {G : fm_G} {σ : fm_M} {i : Nat} (hc : fm_ct i = 15) : fm_ce G σ i = .inl (G.2.2.1 15, fm_ln i, .inr (.inl (σ.2 i))) := by
  unfold fm_ce fm_cx
  rw [hc]; rfl
theorem fm_arR {G : fm_G} {σ : fm_M} {i c : Nat} (hc : fm_ct i = c) (h : 15 < c) : fm_ce G σ i = .inl (G.2.2.1 c, fm_ln i, .inr (.inr (.inr (.inr (fun j => some (G.2.1 (fm_rf i j))))))) := by
  unfold fm_ce fm_cx
  rw [hc, if_neg (by omega), if_neg (by omega), if_neg (by omega)]
-- the words of a mirrored function
def fm_b {α β : Type} (o : Option (α × fm_M)) (f : α → fm_M → Option β) : Option β := o.bind fun q => f q.1 q.2
def fm_g {β : Type} (b : Bool) (x : Option β) : Option β := if b then x else none
def fm_let {α β : Type} (x : α) (f : α → Option β) : Option β := f x
def fm_j {κ β : Type} (K : κ) (f : κ → Option β) : Option β := f K
def fm_in1 (i : Int32) (n : Nat) : Bool := decide (¬ (i < 0 ∨ n ≤ i.toNatClampNeg))
def fm_bz (v : Int32) : Bool := v == 0 || v == 1
theorem fm_bE {α β : Type} {o : Option (α × fm_M)} {f : α → fm_M → Option β} {z : β} (h : fm_b o f = some z) : ∃ (r : α) (σ : fm_M), o = some (r, σ) ∧ f r σ = some z := by
  cases o with
  | none => cases h
  | some q => exact ⟨q.1, q.2, rfl, h⟩
theorem fm_gE {β : Type} {b : Bool} {x : Option β} {z : β} (h : fm_g b x = some z) : b = true ∧ x = some z := by
  cases b with
  | false => cases h
  | true => exact ⟨rfl, h⟩
theorem fm_letE {α β : Type} {x : α} {f : α → Option β} {z : β} (h : fm_let x f = some z) : ∃ y, y = x ∧ f y = some z := ⟨x, rfl, h⟩
theorem fm_inE {i : Int32} {n : Nat} (h : fm_in1 i n = true) : vp_in i n := of_decide_eq_true (p := ¬ (i < 0 ∨ n ≤ i.toNatClampNeg)) h
theorem fm_pT {β : Type} {c : Prop} [Decidable c] {x y : Option β} {z : β} (h : (if c then x else y) = some z) (hc : c) : x = some z := by rwa [if_pos hc] at h
theorem fm_pF {β : Type} {c : Prop} [Decidable c] {x y : Option β} {z : β} (h : (if c then x else y) = some z) (hc : ¬ c) : y = some z := by rwa [if_neg hc] at h
theorem fm_bz_nar {v : Int32} (h : fm_bz v = true) : narrow .boolean (.int v) = .int v ∧ fits .boolean (.int v) = true := by
  simp [fm_bz] at h
  rcases h with rfl | rfl <;> exact ⟨rfl, rfl⟩
def fm_cz (v : Int32) : Bool := decide (v.toUInt32.toUInt16.toUInt32.toInt32 = v)
theorem fm_cz_nar {v : Int32} (h : fm_cz v = true) : narrow .char (.int v) = .int v := by
  have h1 : v.toUInt32.toUInt16.toUInt32.toInt32 = v := of_decide_eq_true h
  show Value.int (v.toUInt32.toUInt16.toUInt32.toInt32) = .int v
  rw [h1]
/-- how many turns a loop may take: far above what any needs -/
def fm_fu : Nat := 100000
theorem fm_jE {κ β : Type} {K : κ} {f : κ → Option β} {z : β} (h : fm_j K f = some z) : ∃ J, J = K ∧ f J = some z := ⟨K, rfl, h⟩
theorem fm_inL {ws : List Cond} (ps : List Nat) (h : ws = ps.filterMap (fun i => tables_1[i]?)) (hg : ws.all goodWord = true) : ∀ w ∈ ws, w ∈ fm_tb := by
  intro w hw
  have h1 := List.all_eq_true.mp hg w hw
  rw [h] at hw
  obtain ⟨i, -, hi⟩ := List.mem_filterMap.mp hw
  exact fm_in i hi h1
-- the shape, by its kinds
def fm_man (a : Nat) : Prop := 2 ≤ a ∧ a < 8
theorem fm_lt6 {x : Int32} {n : Nat} (h : fm_in1 x n = true) : x.toNatClampNeg < n := Nat.not_le.mp fun q => (fm_inE h) (Or.inr q)
theorem fm_shT : ∀ b, b < 110 → fm_ct b = 10 → fm_rf b 0 = 1 ∧ (fm_ct (b + 1) = 17 ∧ fm_rf b 1 = b + 1 ∧ fm_ln (b + 1) = 6) ∧ (fm_ct (b + 8) = 18 ∧ fm_rf b 2 = b + 8 ∧ fm_ln (b + 8) = 8) ∧ (∀ n, n < 6 → fm_ct (b + 2 + n) = 5 ∧ fm_rf (b + 1) n = b + 2 + n) ∧ (∀ n, n < 8 → fm_ct (b + 9 + 2 * n) = 7 ∧ fm_rf (b + 8) n = b + 9 + 2 * n) := by decide +kernel
theorem fm_shP : ∀ a, a < 110 → fm_ct a = 7 → fm_ct (a + 1) = 14 ∧ fm_rf a 0 = a + 1 ∧ fm_ln (a + 1) = 6 := by decide +kernel
theorem fm_shS : ∀ a, a < 110 → fm_ct a = 8 → fm_ct (a + 1) = 15 ∧ fm_rf a 0 = a + 1 ∧ fm_ln (a + 1) = 40 := by decide +kernel
theorem fm_shV : ∀ n, n < 4 → fm_ct (84 + 2 * n) = 8 ∧ fm_rf 83 n = 84 + 2 * n := by decide +kernel
theorem fm_shM : ∀ n, n < 6 → fm_rf 1 n = 2 + n := by decide +kernel
-- the texts: the places of the names in the class's pool, and their bytes
def fm_tk : List Nat := [106, 108, 110, 112, 114, 116, 118, 120, 122, 124, 126, 128]
def fm_tx : List String := ["man", "aunt", "child", "poor", "girl", "clerk", "news", "brown", "tissue", "marbled", "present", "thing"]
def fm_tby : List (List Int32) := [[109, 97, 110], [97, 117, 110, 116], [99, 104, 105, 108, 100], [112, 111, 111, 114], [103, 105, 114, 108], [99, 108, 101, 114, 107], [110, 101, 119, 115], [98, 114, 111, 119, 110], [116, 105, 115, 115, 117, 101], [109, 97, 114, 98, 108, 101, 100], [112, 114, 101, 115, 101, 110, 116], [116, 104, 105, 110, 103]]
def fm_tl : List Nat := [3, 4, 5, 4, 4, 5, 4, 5, 6, 7, 7, 5]
def fm_nc : List (String × String) := [("WrapGifts$Man", "WrapGifts$Aunt"), ("WrapGifts$Man", "WrapGifts$Child"), ("WrapGifts$Man", "WrapGifts$Poor"), ("WrapGifts$Man", "WrapGifts$Girl"), ("WrapGifts$Man", "WrapGifts$Clerk"), ("WrapGifts$Aunt", "WrapGifts$Child"), ("WrapGifts$Aunt", "WrapGifts$Poor"), ("WrapGifts$Aunt", "WrapGifts$Girl"), ("WrapGifts$Aunt", "WrapGifts$Clerk"), ("WrapGifts$Child", "WrapGifts$Aunt"), ("WrapGifts$Child", "WrapGifts$Poor"), ("WrapGifts$Child", "WrapGifts$Girl"), ("WrapGifts$Child", "WrapGifts$Clerk"), ("WrapGifts$Poor", "WrapGifts$Aunt"), ("WrapGifts$Poor", "WrapGifts$Child"), ("WrapGifts$Poor", "WrapGifts$Girl"), ("WrapGifts$Poor", "WrapGifts$Clerk"), ("WrapGifts$Girl", "WrapGifts$Aunt"), ("WrapGifts$Girl", "WrapGifts$Poor"), ("WrapGifts$Girl", "WrapGifts$Clerk"), ("WrapGifts$Clerk", "WrapGifts$Child"), ("WrapGifts$Clerk", "WrapGifts$Poor"), ("WrapGifts$Clerk", "WrapGifts$Girl")]
def fm_yc : List (String × String) := [("WrapGifts$Clerk", "WrapGifts$Aunt"), ("WrapGifts$Girl", "WrapGifts$Child")]
def fm_X (G : fm_G) (U : State) : Prop := vk_S 12 fm_tl fm_tby G.2.2.2.1 G.2.2.2.2 (fm_A G) U U.heap ∧ (∀ i, i < 12 → vk_R "WrapGifts$Tape" (fm_tk.getD i 0) (fm_tx.getD i "") (G.2.2.2.1 i) U) ∧ va_Z "java/lang/String" "COMPACT_STRINGS" "Z" (.int 1) (fm_A G) U U.heap ∧ va_Zq "jdk/internal/util/Preconditions" "SIOOBE_FORMATTER" "Ljava/util/function/BiFunction;" (fm_A G) U U.heap ∧ (∀ q ∈ fm_nc, va_Nc q.1 q.2 U) ∧ ∀ q ∈ fm_yc, va_Nw (.castable q.1 q.2) U
theorem fm_X.to {G : fm_G} {s U : State} {H : Heap} {locs : List Loc} (h : fm_X G s) (hS : va_S (fm_A G) s.heap H locs) (hU : U.heap = H) (hW : s.WarmedH U.vm) : fm_X G U := by
  subst hU
  have hq := hS.2.1
  exact ⟨vk_S.moved hW.alike (h.1.kept hq), fun i hi => vk_R.warm hW (h.2.1 i hi), va_Z.moved hW.alike (h.2.2.1.kept hq), va_Zq.moved hW.alike (h.2.2.2.1.kept hq), fun q hm => va_Nc.moved hW.alike (h.2.2.2.2.1 q hm), fun q hm => va_Nw.warmC hW (h.2.2.2.2.2 q hm)⟩
theorem fm_X.blind {G : fm_G} {U V : State} (h : fm_X G U) (hv : V.vm = U.vm) (hh : V.heap = U.heap) : fm_X G V := by
  have ha : U.vm.Alike V.vm := by rw [hv]; exact Vm.Alike.refl U.vm
  unfold fm_X
  rw [hh]
  exact ⟨vk_S.moved ha h.1, fun i hi => vk_R.same hv (h.2.1 i hi), va_Z.moved ha h.2.2.1, va_Zq.moved ha h.2.2.2.1, fun q hm => va_Nc.moved ha (h.2.2.2.2.1 q hm), fun q hm => va_Nw.same rfl hv.symm (h.2.2.2.2.2 q hm)⟩
