/-! THE MACHINE LAYER, part b: the judgement G of a frame, and Call of a method -/
def stx (i : Nat) : String := ["row", "way", "rank", "most", "pull"].getD i ""
def sidx (i : Nat) : Nat := [42, 57, 63, 65, 71].getD i 0
def sbyt : List (List Int32) := [[114, 111, 119], [119, 97, 121], [114, 97, 110, 107], [109, 111, 115, 116], [112, 117, 108, 108]]
def slen : List Nat := [3, 3, 4, 4, 4]
/-- what is taken as given of String constants and statics, all outside A -/
def SF (α : Nat → Nat) (A : Nat → Prop) (U : State) (H : Heap) : Prop :=
  vk_S 5 slen sbyt (fun i => α (1000 + i)) (fun i => α (1010 + i)) A U H ∧ (∀ i : Nat, i < 5 → vk_R RX4 (sidx i) (stx i) (α (1000 + i)) U) ∧ va_Z RJ0 "COMPACT_STRINGS" "Z" (.int 1) A U H ∧ va_Zq RJ3 "SIOOBE_FORMATTER" "Ljava/util/function/BiFunction;" A U H ∧ ∀ (own : String) (idx : Nat) (y : MethodName) (host : String), Cond.methodLinkNest own idx y host ∈ tables_1 → va_Nw (.methodLinkNest own idx y host) U
theorem SF.kept {α : Nat → Nat} {A : Nat → Prop} {U : State} {H H1 : Heap} (h : SF α A U H) (hq : ∀ a : Nat, a < H.size → ¬ A a → H1[a]? = H[a]?) : SF α A U H1 := ⟨h.1.kept hq, h.2.1, h.2.2.1.kept hq, h.2.2.2.1.kept hq, h.2.2.2.2⟩
theorem SF.narrow {α : Nat → Nat} {A B : Nat → Prop} {U : State} {H : Heap} (h : SF α A U H) (hAB : ∀ q, B q → A q) : SF α B U H := ⟨h.1.narrow hAB, h.2.1, h.2.2.1.narrow hAB, h.2.2.2.1.narrow hAB, h.2.2.2.2⟩
theorem SF.warm {α : Nat → Nat} {A : Nat → Prop} {s U : State} {H : Heap} (hW : s.WarmedH U.vm) (h : SF α A s H) : SF α A U H := ⟨h.1.moved hW.alike, fun i hi => (h.2.1 i hi).warm hW, h.2.2.1.moved hW.alike, h.2.2.2.1.moved hW.alike, fun a b c d e => (h.2.2.2.2 a b c d e).warmM hW⟩
theorem SF.same {α : Nat → Nat} {A : Nat → Prop} {s U : State} {H : Heap} (hv : U.vm = s.vm) (h : SF α A s H) : SF α A U H := ⟨h.1.moved (by rw [hv]; exact Vm.Alike.refl _), fun i hi => (h.2.1 i hi).same hv, h.2.2.1.moved (by rw [hv]; exact Vm.Alike.refl _), h.2.2.2.1.moved (by rw [hv]; exact Vm.Alike.refl _), fun a b c d e => (h.2.2.2.2 a b c d e).same rfl hv.symm⟩
def AA (α : Nat → Nat) (sz : Nat) : Nat → Prop := fun q => (∃ i, i < SHL.length ∧ q = α i) ∨ sz ≤ q
def inj (α : Nat → Nat) : Prop := ∀ i j, i < SHL.length → j < SHL.length → α i = α j → i = j
theorem wd_D {α : Nat → Nat} {cA : Nat → ClassId} {M : Mem} {A : Nat → Prop} (h1 : inj α) (h2 : ∀ i, i < SHL.length → A (α i)) : va_D A (wd α cA M) := by
  have key : ∀ (i : Nat) (p : Nat × va_E), (wd α cA M)[i]? = some p → i < SHL.length ∧ p.1 = α i := fun i p h => by
    simp only [wd, List.getElem?_mapIdx] at h
    cases hs : SHL[i]? with
    | none => rw [hs] at h; cases h
    | some r =>
      rw [hs] at h
      cases h
      exact ⟨(List.getElem?_eq_some_iff.mp hs).1, rfl⟩
  refine ⟨fun i j p q hp hq e => ?_, fun k q hk => ?_⟩
  · obtain ⟨a1, a2⟩ := key i p hp
    obtain ⟨b1, b2⟩ := key j q hq
    exact h1 i j a1 b1 (by rw [← a2, ← b2, e])
  · obtain ⟨a1, a2⟩ := key k q hk
    rw [a2]
    exact h2 k a1
/-- what a method's answer looks like on the machine -/
def outv (α : Nat → Nat) (ret : Option FieldType) (r : AV) : Option Value := match ret with
  | none => none
  | some _ => some (cv α r)
/-- what stands on the caller's stack behind it -/
def outs (ret : Option FieldType) (r : AV) : List AV := match ret with
  | none => []
  | some _ => [r]
theorem outs_map {α : Nat → Nat} {ret : Option FieldType} {r : AV} : (outs ret r).map (cv α) = (outv α ret r).toList := by
  cases ret <;> rfl
abbrev rmD (d : Nat) : Room := { frames := d, cells := 0, slots := 0, locals := 36 * d }
def QcM (α : Nat → Nat) (D : va_G) (cA : Nat → ClassId) (ret : Option FieldType) (Q : AV → Mem → Prop) (A : Nat → Prop) : Array Value → State → Outcome → State → Prop := fun _ st oc t =>
  (∃ (r : AV) (M : Mem), oc = .returned (outv α ret r) ∧ Q r M ∧ va_P D vwCl (wd α cA M) t.heap) ∧ va_F A st t
def PcM (α : Nat → Nat) (D : va_G) (cA : Nat → ClassId) (As : List AV) (M : Mem) (sz : Nat) : Array Value → State → Prop := va_Pc (As.map (cv α)) (fun U => U.heap.size = sz ∧ va_P D vwCl (wd α cA M) U.heap ∧ va_K D vwCl (tyL cA) U ∧ SF α (AA α sz) U U.heap ∧ inj α)
/-- method μ, called with As over the memory M, within d frames: it returns, and its answer and the memory then are as Q says -/
def Call (l : Launch) (α : Nat → Nat) (D : va_G) (cA : Nat → ClassId) (μ : MI) (d : Nat) (As : List AV) (M : Mem) (Q : AV → Mem → Prop) : Prop :=
  ∀ sz, Met l μ.1 (wsM μ) (rmD d) (PcM α D cA As M sz) (QcM α D cA μ.2.2.2.1 Q (AA α sz)) 0 0 (AA α sz)
/-- locals: none is one of which nothing is known -/
def LH (α : Nat → Nat) (ls : Array Slot) (nL : Nat) (L : List (Option AV)) : Prop := ls.size = nL ∧ lv_wf ls ∧ L.length = nL ∧ ∀ (i : Nat) (v : AV), L[i]? = some (some v) → ls[i]? = some (.val (cv α v))
def RetAt (cc : ByteArray) (pc : Nat) (ret : Option FieldType) (r : AV) : Prop := match ret with
  | none => decode cc pc = .ok (.return_, 1)
  | some ty => (decode cc pc = .ok (.ireturn, 1) ∧ ∃ v : Int32, r = .inl v ∧ narrow ty (.int v) = .int v) ∨ (decode cc pc = .ok (.areturn, 1) ∧ ((∃ n, ty = .object n) ∨ ∃ t, ty = .array t) ∧ ∃ j : Nat, r = .inr j)
/-- what is fixed in a frame: the machine, the method, its room within d frames, the script (if it is the law's), and where its end is -/
def CX (l : Launch) (α : Nat → Nat) (D : va_G) (cA : Nat → ClassId) (μ : MI) (sc : Option (Nat × (Nat → Int32))) (d : Nat) (Q : AV → Mem → Prop) (p : Program) (e : Env) (s : State) (m : MethodId) (args : Array Value) (below : List Frame) (meth : Method) (c : Code) (A : Nat → Prop) (cells slots : Nat) (R : Room) (Qf : State → Prop) : Prop :=
  (p.tables.exec = Jvm.exec ∧ c.code = μ.2.1 ∧ c.maxLocals = μ.2.2.1 ∧ s.vm.findClass μ.1.cls = some m.cls ∧ ∀ w ∈ TG, w.before args s = true) ∧
  va_K D vwCl (tyL cA) s ∧ inj α ∧ (∀ i, i < SHL.length → A (α i)) ∧ (∀ q, s.heap.size ≤ q → A q) ∧ SF α A s s.heap ∧ (d ≤ R.frames ∧ 36 * d ≤ R.locals ∧ cells ≤ R.cells ∧ slots ≤ R.slots) ∧
  (∀ (L : Nat) (xs : Nat → Int32), sc = some (L, xs) → va_X (α 999) L xs s s.heap ∧ α 999 < s.heap.size ∧ ¬ A (α 999)) ∧
  ∀ (r : AV) (M : Mem) (H : Heap) (locs : List Loc) (pc : Nat) (ls : Array Slot), Q r M → RetAt μ.2.1 pc μ.2.2.2.1 r → va_P D vwCl (wd α cA M) H → va_S A s.heap H locs → W p l e R s m args below meth c H locs cells slots Qf (F0 m pc ls (outv α μ.2.2.2.1 r).toList)
def G (l : Launch) (α : Nat → Nat) (D : va_G) (cA : Nat → ClassId) (μ : MI) (sc : Option (Nat × (Nat → Int32))) (d : Nat) (Q : AV → Mem → Prop) (pc : Nat) (L : List (Option AV)) (S : List AV) (M : Mem) : Prop :=
  ∀ (p : Program) (e : Env) (s : State) (m : MethodId) (args : Array Value) (below : List Frame) (meth : Method) (c : Code) (A : Nat → Prop) (cells slots : Nat) (R : Room) (Qf : State → Prop), CX l α D cA μ sc d Q p e s m args below meth c A cells slots R Qf →
    ∀ (H : Heap) (locs : List Loc) (ls : Array Slot), va_P D vwCl (wd α cA M) H → va_S A s.heap H locs → LH α ls μ.2.2.1 L → W p l e R s m args below meth c H locs cells slots Qf (F0 m pc ls (S.map (cv α)))
section GJ
variable {l : Launch} {α : Nat → Nat} {D : va_G} {cA : Nat → ClassId} {μ ν : MI} {sc : Option (Nat × (Nat → Int32))} {d : Nat} {Q : AV → Mem → Prop} {pc : Nat} {L : List (Option AV)} {S : List AV} {M : Mem}
theorem lv_args_get {α : Nat → Nat} : ∀ (As : List AV) (k i : Nat) (v : AV), As[i]? = some v → (k + i, cv α v) ∈ lv_args k (As.map (cv α))
  | [], _, _, _, h => by simp at h
  | a :: As, k, 0, v, h => by
    simp at h
    subst h
    exact List.mem_cons_self
  | a :: As, k, i + 1, v, h => by
    have hc : (cv α a).category = 1 := by cases a <;> rfl
    have h2 := lv_args_get (α := α) As (k + 1) i v (by simpa using h)
    show _ ∈ (k, cv α a) :: lv_args (if (cv α a).category = 2 then k + 2 else k + 1) (As.map (cv α))
    rw [hc]
    refine List.mem_cons_of_mem _ ?_
    rw [show k + (i + 1) = k + 1 + i by omega]
    exact h2
theorem lg_sl_len {α : Nat → Nat} : ∀ (As : List AV), (lg_sl (As.map (cv α))).length = As.length
  | [] => rfl
  | a :: As => by
    have hc : (cv α a).category = 1 := by cases a <;> rfl
    have h := lg_sl_len (α := α) As
    show ((if (cv α a).category = 2 then [Slot.val (cv α a), .second] else [Slot.val (cv α a)]) ++ lg_sl (As.map (cv α))).length = As.length + 1
    rw [hc, if_neg (by decide), List.length_append, h]
    show 1 + As.length = _
    omega
theorem AA_lt {α : Nat → Nat} {sz q : Nat} (h : sz ≤ q) : AA α sz q := Or.inr h
/-- a method's contract out of its body -/
theorem Call.of {As : List AV} {Q : AV → Mem → Prop} (hk : MK μ) (hl : As.length ≤ μ.2.2.1) (h : G l α D cA μ none d Q 0 (As.map some ++ List.replicate (μ.2.2.1 - As.length) none) [] M) : Call l α D cA μ d As M Q := by
  intro sz
  refine Met.ofW (cc := μ.2.1) (maxL := μ.2.2.1) (ret := μ.2.2.2.1) hk.2.2.2.1 rfl ?_
  intro p e s m args below meth c s₁ B hml hv
  obtain ⟨rfl, hsz, hP, hK, hF, hi⟩ := hv
  have hts : ∀ w ∈ wsM μ, w.before _ s = true := atoms_spec (ws := wsM μ) B.pre
  have hown : s.vm.findClass μ.1.cls = some m.cls := findClass_of_methodNamed B.named
  have hr : meth.sig.returnType = μ.2.2.2.1 := B.returns
  have hlocks := B.notSynchronized
  have hx := B.exec
  have hb := B.bytes
  subst hsz
  have hlv := lv_entry (As.map (cv α)) (n := μ.2.2.1) (by rw [lg_sl_len]; exact hl)
  rw [lg_entry_eq]
  generalize (lg_sl (As.map (cv α)) ++ List.replicate (μ.2.2.1 - (lg_sl (As.map (cv α))).length) Slot.unset).toArray = ls at hlv ⊢
  refine h p e s m _ below meth c (AA α s.heap.size) 0 0 (rmD d) _ ?_ s.heap [] ls hP va_S.rf ?_
  · refine ⟨⟨hx, hb, hml, hown, wsM_tg hts⟩, hK, hi, fun i h => Or.inl ⟨i, h, rfl⟩, fun q h => Or.inr h, hF, ⟨Nat.le_refl _, Nat.le_refl _, Nat.le_refl _, Nat.le_refl _⟩, (fun _ _ h => by cases h), ?_⟩
    intro r M' H locs pc ls hq hret hP' hS'
    have hQ : ∀ t : State, t.heap = H → QcM α D cA μ.2.2.2.1 Q (AA α s.heap.size) (As.map (cv α)).toArray s (.returned (outv α μ.2.2.2.1 r)) t := fun t ht => ⟨⟨r, M', rfl, hq, by rw [ht]; exact hP'⟩, hS'.F ht⟩
    generalize hrt : μ.2.2.2.1 = rt at hr hret hQ
    cases rt with
    | none => exact W.vret hx hb hr (fun t ht _ => hQ t ht) hS'.2.2 hret
    | some ty =>
      rcases hret with ⟨h1, v, rfl, h2⟩ | ⟨h1, h2, j, rfl⟩
      · exact W.zret hx hb hr h2 (fun t ht _ => hQ t ht) hS'.2.2 h1
      · exact W.aret hx hb hr h2 (Or.inr ⟨_, rfl⟩) (fun t ht _ => hQ t ht) hS'.2.2 h1
  · refine ⟨hlv.1, hlv.2.1, by simp; omega, fun i v hv => ?_⟩
    have hi2 : As[i]? = some v := by
      by_cases hlt : i < As.length
      · rw [List.getElem?_append_left (by simpa using hlt)] at hv
        simpa using hv
      · rw [List.getElem?_append_right (by simpa using hlt)] at hv
        rw [List.getElem?_replicate] at hv
        split at hv <;> simp at hv
    have := lv_args_get (α := α) As 0 i v hi2
    exact hlv.2.2 _ (by simpa using this)
theorem Call.mono {As : List AV} {Q Q' : AV → Mem → Prop} (h : Call l α D cA μ d As M Q) (hq : ∀ r M', Q r M' → Q' r M') : Call l α D cA μ d As M Q' := by
  intro sz p e ha hc hk s m args below hf hfit hP hw
  obtain ⟨t, o, h1, h2, h3, ⟨⟨⟨r, M', e1, e2, e3⟩, e4⟩, e5⟩⟩ := h sz p e ha hc hk s m args below hf hfit hP hw
  exact ⟨t, o, h1, h2, h3, ⟨⟨⟨r, M', e1, hq _ _ e2, e3⟩, e4⟩, e5⟩⟩
end GJ
