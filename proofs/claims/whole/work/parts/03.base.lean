/-! THE MACHINE LAYER, part a: the tables' good words; the world as one memory of ints; a frame's judgement G -/
def TG : List Cond := lw_tbl.filter goodWord
theorem tg_of {w : Cond} (h : w ∈ lw_tbl) (g : goodWord w = true) : w ∈ TG := List.mem_filter.mpr ⟨h, g⟩
theorem tg_t {w : Cond} (h : w ∈ tables_1) (g : goodWord w = true) : w ∈ TG := tg_of (List.mem_append_right _ h) g
theorem tg_1 {w : Cond} (i : Nat) (h : tables_1_1[i]? = some w) (g : goodWord w = true) : w ∈ TG := tg_t (List.mem_append_left _ (List.mem_of_getElem? h)) g
theorem tg_2 {w : Cond} (i : Nat) (h : tables_1_2[i]? = some w) (g : goodWord w = true) : w ∈ TG := tg_t (List.mem_append_right _ (List.mem_append_left _ (List.mem_of_getElem? h))) g
theorem tg_3 {w : Cond} (i : Nat) (h : tables_1_3[i]? = some w) (g : goodWord w = true) : w ∈ TG := tg_t (List.mem_append_right _ (List.mem_append_right _ (List.mem_append_left _ (List.mem_of_getElem? h)))) g
theorem tg_4 {w : Cond} (i : Nat) (h : tables_1_4[i]? = some w) (g : goodWord w = true) : w ∈ TG := tg_t (List.mem_append_right _ (List.mem_append_right _ (List.mem_append_right _ (List.mem_append_left _ (List.mem_of_getElem? h))))) g
theorem tg_5 {w : Cond} (i : Nat) (h : tables_1_5[i]? = some w) (g : goodWord w = true) : w ∈ TG := tg_t (List.mem_append_right _ (List.mem_append_right _ (List.mem_append_right _ (List.mem_append_right _ (List.mem_append_left _ (List.mem_of_getElem? h)))))) g
theorem tg_6 {w : Cond} (i : Nat) (h : tables_1_6[i]? = some w) (g : goodWord w = true) : w ∈ TG := tg_t (List.mem_append_right _ (List.mem_append_right _ (List.mem_append_right _ (List.mem_append_right _ (List.mem_append_right _ (List.mem_of_getElem? h)))))) g
theorem tg_p {w : Cond} (i : Nat) (h : (k2_sels lw_privs)[i]? = some w) (g : goodWord w = true) : w ∈ TG := tg_of (List.mem_append_left _ (List.mem_of_getElem? h)) g
theorem tt_1 {w : Cond} (i : Nat) (h : tables_1_1[i]? = some w) : w ∈ tables_1 := List.mem_append_left _ (List.mem_of_getElem? h)
theorem tt_2 {w : Cond} (i : Nat) (h : tables_1_2[i]? = some w) : w ∈ tables_1 := List.mem_append_right _ (List.mem_append_left _ (List.mem_of_getElem? h))
theorem tt_3 {w : Cond} (i : Nat) (h : tables_1_3[i]? = some w) : w ∈ tables_1 := List.mem_append_right _ (List.mem_append_right _ (List.mem_append_left _ (List.mem_of_getElem? h)))
theorem tt_4 {w : Cond} (i : Nat) (h : tables_1_4[i]? = some w) : w ∈ tables_1 := List.mem_append_right _ (List.mem_append_right _ (List.mem_append_right _ (List.mem_append_left _ (List.mem_of_getElem? h))))
theorem tt_5 {w : Cond} (i : Nat) (h : tables_1_5[i]? = some w) : w ∈ tables_1 := List.mem_append_right _ (List.mem_append_right _ (List.mem_append_right _ (List.mem_append_right _ (List.mem_append_left _ (List.mem_of_getElem? h)))))
theorem tt_6 {w : Cond} (i : Nat) (h : tables_1_6[i]? = some w) : w ∈ tables_1 := List.mem_append_right _ (List.mem_append_right _ (List.mem_append_right _ (List.mem_append_right _ (List.mem_append_right _ (List.mem_of_getElem? h)))))
theorem TG_good : ∀ w ∈ TG, w ∈ TG ∧ ((w.onTables && w.keeps) = true ∨ ∃ ty, w = .arrayClass ty) := fun w h => ⟨h, good_of_word (List.mem_filter.mp h).2⟩
/-- a method: name, code, locals, what it returns, number of parameters -/
abbrev MI : Type := MethodName × ByteArray × Nat × Option FieldType × Nat
def wsM (μ : MI) : List Cond := Cond.code μ.1 μ.2.1 μ.2.2.1 μ.2.2.2.1 :: TG
def MK (μ : MI) : Prop := Cond.code μ.1 μ.2.1 μ.2.2.1 μ.2.2.2.1 ∈ TG ∧ Cond.initialized μ.1.cls ∈ TG ∧ (μ.1.cls ≠ "java/lang/invoke/MethodHandle" ∧ μ.1.cls ≠ "java/lang/invoke/VarHandle" ∧ (parseMethodDescriptor μ.1.desc).map (fun d => d.parameters.length) = some μ.2.2.2.2) ∧ plainName μ.1.cls = true ∧ μ.2.2.1 ≤ 17
def MV (μ : MI) : Prop := MK μ ∧ Cond.instanceMethod μ.1 ∈ TG ∧ Cond.selects μ.1.cls μ.1 μ.1 ∈ TG
def MS (μ : MI) : Prop := MK μ ∧ Cond.static μ.1 ∈ TG
/-- a link of a pool entry to a method -/
def LK (own : String) (idx : Nat) (y : MethodName) : Prop := Cond.methodLink own idx y ∈ TG ∨ ∃ host, Cond.methodLinkNest own idx y host ∈ tables_1
/-- a link of a pool entry to a field of the own class -/
def FL (own : String) (idx ci k : Nat) : Prop := ∃ (T : u_T) (N : Nat), vwCl[ci]? = some (own, T, N) ∧ k < N ∧ (∀ w ∈ u_ws own T N, w ∈ TG) ∧ (T k).1 = own ∧ Cond.fieldLink own idx own (T k).2.1 (T k).2.2.1 ∈ TG
/-- and it may be written, and holds an int -/
def FP (own : String) (idx ci k : Nat) : Prop := ∃ (T : u_T) (N : Nat) (ty : Nat → FieldType), vwCl[ci]? = some (own, T, N) ∧ k < N ∧ (∀ w ∈ u_ws own T N, w ∈ TG) ∧ (T k).1 = own ∧ Cond.fieldLink own idx own (T k).2.1 (T k).2.2.1 ∈ TG ∧ (∀ k, k < N → parseFieldDescriptor (T k).2.2.1 = some (ty k)) ∧ (∀ a, a < N → ∀ b, b < N → a ≠ b → (T a).2.1 ≠ (T b).2.1) ∧ (T k).2.2.2 = false ∧ parseFieldDescriptor (T k).2.2.1 = some .int
theorem goodIn_wsM {μ : MI} (h : MK μ) : GoodIn TG (wsM μ) := fun w hw => by
  rcases List.mem_cons.mp hw with rfl | hw
  · exact TG_good _ h.1
  · exact TG_good _ hw
theorem wsM_tg {μ : MI} {args : Array Value} {s : State} (h : ∀ w ∈ wsM μ, w.before args s = true) : ∀ w ∈ TG, w.before args s = true := fun w hw => h w (List.mem_cons_of_mem _ hw)
/-! the memory: for each object or array its ints; references never change, and stand in the shapes -/
abbrev Mem : Type := Nat → Nat → Int32
abbrev AV : Type := Int32 ⊕ Nat
def ms (M : Mem) (o k : Nat) (v : Int32) : Mem := fun q => if q = o then upd (M o) k v else M q
/-- a shape: an object of the number of its kind and its fields (none: an int; some j: the object or array j), an array of ints (its type's number, its length), an array of references -/
abbrev Sh : Type := (Nat × List (Option Nat)) ⊕ ((Nat × Nat) ⊕ List Nat)
def SHL : List Sh := [
  .inl (9, [some 1, some 3, some 5, some 8, some 17, some 31, some 34, some 38, some 46, some 49]),
  .inl (0, [some 2]), .inr (.inl (0, 60)),
  .inl (7, [some 4, none, none, none, none]), .inr (.inl (2, 120)),
  .inl (4, [some 6, none]), .inl (0, [some 7]), .inr (.inl (0, 60)),
  .inl (1, [some 9, some 12, some 13, some 14, some 15, some 16, none, none]), .inl (8, [some 10, some 11, none]), .inr (.inl (0, 48)), .inr (.inl (0, 48)), .inr (.inl (0, 48)), .inr (.inl (0, 48)), .inr (.inl (0, 48)), .inr (.inl (0, 48)), .inr (.inl (1, 48)),
  .inl (5, [some 18, some 21, some 22, some 23, some 24, some 25, some 26, some 27, some 28, some 29, some 30, none, none, none, none]), .inl (8, [some 19, some 20, none]), .inr (.inl (0, 48)), .inr (.inl (0, 48)),
  .inr (.inl (0, 48)), .inr (.inl (0, 48)), .inr (.inl (0, 48)), .inr (.inl (0, 48)), .inr (.inl (0, 48)), .inr (.inl (0, 48)), .inr (.inl (0, 48)), .inr (.inl (0, 48)), .inr (.inl (0, 48)), .inr (.inl (1, 48)),
  .inl (6, [some 32, some 33, none, none]), .inr (.inl (0, 10)), .inr (.inl (1, 4)),
  .inl (3, [some 35, some 36, some 37, none]), .inr (.inl (0, 6)), .inr (.inl (0, 6)), .inr (.inl (0, 6)),
  .inl (2, [some 39, none, none]), .inr (.inr [40, 41, 42, 43, 44, 45]), .inr (.inl (0, 60)), .inr (.inl (0, 60)), .inr (.inl (0, 60)), .inr (.inl (0, 60)), .inr (.inl (0, 60)), .inr (.inl (0, 60)),
  .inr (.inr [47, 48]), .inr (.inl (0, 60)), .inr (.inl (0, 60)), .inr (.inl (1, 2)),
  .inl (10, [none, some 51, some 52, some 53, none, some 54, some 55, some 56, none, some 57, none, none, none, none, none, some 58, none, none, some 59, some 60, some 61, some 62, some 63, some 64, some 65, none, some 66, some 67, some 68, none, some 69, some 70, some 71, some 72, some 73]),
  .inr (.inl (0, 60)), .inr (.inl (0, 60)), .inr (.inl (0, 360)), .inr (.inl (0, 120)), .inr (.inl (1, 2)), .inr (.inl (0, 18)), .inr (.inl (3, 120)), .inr (.inl (0, 48)),
  .inr (.inl (0, 48)), .inr (.inl (0, 48)), .inr (.inl (0, 48)), .inr (.inl (0, 48)), .inr (.inl (0, 48)), .inr (.inl (0, 48)), .inr (.inl (0, 48)), .inr (.inl (0, 48)), .inr (.inl (0, 48)), .inr (.inl (0, 48)),
  .inr (.inl (0, 48)), .inr (.inl (1, 48)), .inr (.inl (0, 10)), .inr (.inl (0, 10)), .inr (.inl (0, 4096))]
/-- fields' values -/
def fv (α : Nat → Nat) (f : Nat → Int32) (k : Nat) (r : Option Nat) : Value := match r with
  | none => .int (f k)
  | some j => .ref (α j)
def cv (α : Nat → Nat) (a : AV) : Value := match a with
  | .inl x => .int x
  | .inr j => .ref (α j)
def en (α : Nat → Nat) (cA : Nat → ClassId) (f : Nat → Int32) (h : Sh) : va_E := match h with
  | .inl q => .inr (q.1, q.2.mapIdx (fun k r => fv α f k r))
  | .inr (.inl q) => .inl (cA q.1, q.2, .inl f)
  | .inr (.inr js) => .inl (cA 4, js.length, .inr (.inr (.inr (.inr (fun i => (js[i]?).map α)))))
def wd (α : Nat → Nat) (cA : Nat → ClassId) (M : Mem) : va_W := SHL.mapIdx (fun o h => (α o, en α cA (M o) h))
abbrev tyL (cA : Nat → ClassId) : List (ClassId × FieldType) := [(cA 0, .int), (cA 1, .boolean), (cA 2, .char), (cA 3, .byte), (cA 4, .array .int)]
theorem wd_at {α : Nat → Nat} {cA : Nat → ClassId} {M : Mem} {o : Nat} {h : Sh} (hs : SHL[o]? = some h) : (wd α cA M)[o]? = some (α o, en α cA (M o) h) := by
  simp [wd, List.getElem?_mapIdx, hs]
theorem wd_set {α : Nat → Nat} {cA : Nat → ClassId} {M M' : Mem} {o : Nat} {h : Sh} (hs : SHL[o]? = some h) (hM : ∀ q, q ≠ o → M' q = M q) : (wd α cA M).set o (α o, en α cA (M' o) h) = wd α cA M' := by
  apply List.ext_getElem?
  intro i
  rw [List.getElem?_set]
  by_cases hi : o = i
  · subst hi
    have hl : o < (wd α cA M).length := (List.getElem?_eq_some_iff.mp (wd_at (α := α) (cA := cA) (M := M) hs)).1
    rw [if_pos rfl, if_pos hl, wd_at hs]
  · rw [if_neg hi]
    simp only [wd, List.getElem?_mapIdx]
    cases SHL[i]? with
    | none => rfl
    | some r => simp [hM i (fun q => hi q.symm)]
theorem ms_o {M : Mem} {o k : Nat} {v : Int32} : ms M o k v o = upd (M o) k v := by simp [ms]
theorem ms_q {M : Mem} {o k q : Nat} {v : Int32} (h : q ≠ o) : ms M o k v q = M q := by simp [ms, h]
theorem fv_set {α : Nat → Nat} {f : Nat → Int32} {fs : List (Option Nat)} {k : Nat} {v : Int32} (hk : fs[k]? = some none) : (fs.mapIdx (fun k r => fv α f k r)).set k (.int v) = fs.mapIdx (fun j r => fv α (upd f k v) j r) := by
  apply List.ext_getElem?
  intro i
  rw [List.getElem?_set]
  by_cases hi : k = i
  · subst hi
    have hl : k < fs.length := (List.getElem?_eq_some_iff.mp hk).1
    simp [hl, List.getElem?_mapIdx]
    have : fs[k] = none := by
      have := (List.getElem?_eq_some_iff.mp hk).2
      exact this
    rw [this]
    simp [fv, upd]
  · rw [if_neg hi]
    simp only [List.getElem?_mapIdx]
    cases h : fs[i]? with
    | none => rfl
    | some r =>
      cases r with
      | none => simp [fv, upd, Ne.symm hi]
      | some j => simp [fv]
