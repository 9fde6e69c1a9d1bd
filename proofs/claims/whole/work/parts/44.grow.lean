/-! THE CONSTRUCTORS, a: worlds that grow; the rules of a straight road -/
section P44
variable {l : Launch} {D : va_G} {cA : Nat → ClassId} {μ ν : MI} {d nc ns : Nat} {Qr : Nat → List (Nat × Value) → List Value → va_W → Prop} {pc : Nat} {L : List (Nat × Value)} {S : List Value} {w : va_W} {k j : Nat}
def NW (U : State) : Prop := ∀ (own : String) (idx : Nat) (y : MethodName) (host : String), Cond.methodLinkNest own idx y host ∈ tables_1 → va_Nw (.methodLinkNest own idx y host) U
theorem NW.warm {s U : State} (hW : s.WarmedH U.vm) (h : NW s) : NW U := fun a b c d e => (h a b c d e).warmM hW
theorem NW.same {s U : State} (hv : U.vm = s.vm) (h : NW s) : NW U := fun a b c d e => (h a b c d e).same rfl hv.symm
theorem ov_alike {A A' : Array Value} {u U : State} {t : FieldType} (hal : u.vm.Alike U.vm) (h : (Cond.arrayOver (.array t)).before A u = true) : (Cond.arrayOver (.array t)).before A' U = true := by
  simp only [Cond.before, Cond.holds, Cond.value, beq_iff_eq] at h ⊢
  rw [hal.findClass]
  cases hc : u.vm.findClass (FieldType.array t).toString with
  | none => simp [hc] at h
  | some comp =>
    simp only [hc, Option.bind_some, Option.bind_eq_some_iff, Option.map_eq_some_iff] at h ⊢
    obtain ⟨c, hi, k, hk, hb⟩ := h
    obtain ⟨k', hk', he⟩ := hal.2.2 _ _ hk
    refine ⟨c, (hal.findIdx?_eqK _ (fun _ => rfl)).trans hi, k', hk', ?_⟩
    rw [he, hal.findClass]
    exact hb
/-- the class of arrays of arrays of ints is there -/
def OVR (U : State) : Prop := (Cond.arrayOver (.array .int)).before #[] U = true
def NO (U : State) : Prop := NW U ∧ OVR U
theorem NO.warm {s U : State} (hW : s.WarmedH U.vm) (h : NO s) : NO U := ⟨NW.warm hW h.1, ov_alike hW.alike h.2⟩
theorem NO.same {s U : State} (hv : U.vm = s.vm) (h : NO s) : NO U := ⟨NW.same hv h.1, ov_alike (by rw [hv]; exact Vm.Alike.refl _) h.2⟩
abbrev rmC (d nc ns : Nat) : Room := { frames := d, cells := nc, slots := ns, locals := 36 * d }
def PcC (D : va_G) (cA : Nat → ClassId) (As : List Value) (w : va_W) (sz : Nat) : Array Value → State → Prop := va_Pc As (fun U => U.heap.size = sz ∧ va_P D vwCl w U.heap ∧ va_K D vwCl (tyL cA) U ∧ va_D (fun _ => True) w ∧ NO U)
def QcC (D : va_G) (w : va_W) (sz : Nat) (Q : va_W → Prop) : Array Value → State → Outcome → State → Prop := va_Qv (fun u : va_W => Q u) (fun (u : va_W) (t : State) => va_P D vwCl u t.heap ∧ va_D (va_A w sz) u) (va_A w sz)
/-- a void method that makes w into a world of Q, with nc new cells of ns slots -/
def Mk (l : Launch) (D : va_G) (cA : Nat → ClassId) (μ : MI) (d nc ns : Nat) (As : List Value) (w : va_W) (Q : va_W → Prop) : Prop := ∀ sz, Met l μ.1 (wsM μ) (rmC d nc ns) (PcC D cA As w sz) (QcC D w sz Q) nc ns (va_A w sz)
/-- a void method's end -/
def exR (μ : MI) (Q : va_W → Prop) : Nat → List (Nat × Value) → List Value → va_W → Prop := fun pc _ S w => S = [] ∧ Q w ∧ decode μ.2.1 pc = .ok (.return_, 1)
def UX (l : Launch) (D : va_G) (cA : Nat → ClassId) (μ : MI) (d nc ns : Nat) (Qr : Nat → List (Nat × Value) → List Value → va_W → Prop) (p : Program) (e : Env) (s : State) (m : MethodId) (args : Array Value) (below : List Frame) (meth : Method) (c : Code) (A : Nat → Prop) (R : Room) (Qf : State → Prop) : Prop :=
  (p.tables.exec = Jvm.exec ∧ c.code = μ.2.1 ∧ c.maxLocals = μ.2.2.1 ∧ s.vm.findClass μ.1.cls = some m.cls ∧ (∀ w ∈ TG, w.before args s = true) ∧ (μ.1.name = "<init>" → meth.name = "<init>")) ∧ va_K D vwCl (tyL cA) s ∧ NO s ∧ (∀ q, s.heap.size ≤ q → A q) ∧ (d ≤ R.frames ∧ 36 * d ≤ R.locals ∧ nc ≤ R.cells ∧ ns ≤ R.slots) ∧
  ∀ (w : va_W) (H : Heap) (locs : List Loc) (pc : Nat) (ls : Array Slot) (L : List (Nat × Value)) (S : List Value), Qr pc L S w → va_P D vwCl w H → va_D A w → va_S A s.heap H locs → lv_has ls μ.2.2.1 L → W p l e R s m args below meth c H locs nc ns Qf (F0 m pc ls S)
def UU (l : Launch) (D : va_G) (cA : Nat → ClassId) (μ : MI) (d nc ns : Nat) (Qr : Nat → List (Nat × Value) → List Value → va_W → Prop) (pc : Nat) (L : List (Nat × Value)) (S : List Value) (w : va_W) (k j : Nat) : Prop :=
  ∀ (p : Program) (e : Env) (s : State) (m : MethodId) (args : Array Value) (below : List Frame) (meth : Method) (c : Code) (A : Nat → Prop) (R : Room) (Qf : State → Prop), UX l D cA μ d nc ns Qr p e s m args below meth c A R Qf →
    ∀ (H : Heap) (locs : List Loc) (ls : Array Slot), va_P D vwCl w H → va_D A w → va_S A s.heap H locs → lv_has ls μ.2.2.1 L → W p l e R s m args below meth c H locs k j Qf (F0 m pc ls S)
theorem Mk.of {As : List Value} {Q : va_W → Prop} (hk : MK μ) (hret : μ.2.2.2.1 = none) (hn : (lg_sl As).length ≤ μ.2.2.1) (h : UU l D cA μ d nc ns (exR μ Q) 0 (lv_args 0 As) [] w 0 0) : Mk l D cA μ d nc ns As w Q := by
  intro sz
  refine Met.ofW (cc := μ.2.1) (maxL := μ.2.2.1) (ret := μ.2.2.2.1) hk.2.2.2.1 rfl ?_
  intro p e s m args below meth c s₁ B hml hv
  obtain ⟨rfl, hsz, hP, hK, hD0, hN⟩ := hv
  have hts : ∀ w ∈ wsM μ, w.before _ s = true := atoms_spec (ws := wsM μ) B.pre
  have hown : s.vm.findClass μ.1.cls = some m.cls := findClass_of_methodNamed B.named
  have hr : meth.sig.returnType = none := B.returns.trans hret
  have hlocks := B.notSynchronized
  have hx := B.exec
  have hb := B.bytes
  have hname : meth.name = μ.1.name := (name_of_methodNamed B.named B.method).1
  subst hsz
  have hD := hD0.self (sz := s.heap.size)
  have hlv := lv_entry As (n := μ.2.2.1) hn
  rw [lg_entry_eq]
  generalize (lg_sl As ++ List.replicate (μ.2.2.1 - (lg_sl As).length) Slot.unset).toArray = ls at hlv ⊢
  refine h p e s m _ below meth c (va_A w s.heap.size) (rmC d nc ns) _ ?_ s.heap [] ls hP hD va_S.rf hlv
  refine ⟨⟨hx, hb, hml, hown, wsM_tg hts, fun h => hname.trans h⟩, hK, hN, fun q hq => Or.inr hq, ⟨Nat.le_refl _, Nat.le_refl _, Nat.le_refl _, Nat.le_refl _⟩, ?_⟩
  rintro w' H locs pc ls L S ⟨rfl, hq, hd⟩ hP' hD' hS' _
  exact W.vret hx hb hr (fun t ht _ => ⟨⟨w', rfl, hq, by rw [ht]; exact hP', hD'⟩, hS'.F ht⟩) hS'.2.2 hd
theorem U_out (hq : Qr pc L S w) : UU l D cA μ d nc ns Qr pc L S w nc ns := by
  intro p e s m args below meth c A R Qf C H locs ls hP hD hS hL
  exact C.2.2.2.2.2 w H locs pc ls L S hq hP hD hS hL
theorem U_ret {Q : va_W → Prop} (hd : decode μ.2.1 pc = .ok (.return_, 1)) (hq : Q w) : UU l D cA μ d nc ns (exR μ Q) pc L [] w nc ns := U_out ⟨rfl, hq, hd⟩
theorem U_astore {i : Fin 4} {i' : Nat} {a : Nat} {L2 : List (Nat × Value)} (hd : decode μ.2.1 pc = .ok (.astore_n i, 1)) (hi : (i : Nat) = i') (hn : i' < μ.2.2.1) (hl : (i', Value.ref a) :: L.filter (fun q => !(q.1 == i') && !(q.1 + 1 == i' && q.2.category == 2)) = L2) (kk : UU l D cA μ d nc ns Qr (pc + 1) L2 S w k j) : UU l D cA μ d nc ns Qr pc L (.ref a :: S) w k j := by
  intro p e s m args below meth c A R Qf C H locs ls hP hD hS hL
  exact lv_astore_n C.1.1 C.1.2.1 hd hi hL hn hl (fun ls2 h2 => kk p e s m args below meth c A R Qf C H locs ls2 hP hD hS h2)
theorem U_aload {t : Nat} {i : Fin 4} {i' : Nat} {a : Nat} (hd : decode μ.2.1 pc = .ok (.aload_n i, 1)) (hi : (i : Nat) = i') (hl : L[t]? = some (i', .ref a)) (kk : UU l D cA μ d nc ns Qr (pc + 1) L (.ref a :: S) w k j) : UU l D cA μ d nc ns Qr pc L S w k j := by
  intro p e s m args below meth c A R Qf C H locs ls hP hD hS hL
  exact lv_aload_n C.1.1 C.1.2.1 hd hi (lv_at hL t hl) (kk p e s m args below meth c A R Qf C H locs ls hP hD hS hL)
theorem U_iload {t : Nat} {i : Fin 4} {i' : Nat} {a : Int32} (hd : decode μ.2.1 pc = .ok (.iload_n i, 1)) (hi : (i : Nat) = i') (hl : L[t]? = some (i', .int a)) (kk : UU l D cA μ d nc ns Qr (pc + 1) L (.int a :: S) w k j) : UU l D cA μ d nc ns Qr pc L S w k j := by
  intro p e s m args below meth c A R Qf C H locs ls hP hD hS hL
  exact lv_iload_n C.1.1 C.1.2.1 hd hi (lv_at hL t hl) (kk p e s m args below meth c A R Qf C H locs ls hP hD hS hL)
theorem U_istore {i : Fin 4} {i' : Nat} {x : Int32} {L2 : List (Nat × Value)} (hd : decode μ.2.1 pc = .ok (.istore_n i, 1)) (hi : (i : Nat) = i') (hn : i' < μ.2.2.1) (hl : (i', Value.int x) :: L.filter (fun q => !(q.1 == i') && !(q.1 + 1 == i' && q.2.category == 2)) = L2) (kk : UU l D cA μ d nc ns Qr (pc + 1) L2 S w k j) : UU l D cA μ d nc ns Qr pc L (.int x :: S) w k j := by
  intro p e s m args below meth c A R Qf C H locs ls hP hD hS hL
  exact lv_istore_n C.1.1 C.1.2.1 hd hi hL hn hl (fun ls2 h2 => kk p e s m args below meth c A R Qf C H locs ls2 hP hD hS h2)
theorem U_iinc {i t : Nat} {n : Int} {x v : Int32} {L2 : List (Nat × Value)} (hd : decode μ.2.1 pc = .ok (.iinc i n, 3)) (ht : L[t]? = some (i, .int x)) (hv : x + Int32.ofInt n = v) (hn : i < μ.2.2.1) (hl : (i, Value.int v) :: L.filter (fun q => !(q.1 == i) && !(q.1 + 1 == i && q.2.category == 2)) = L2) (kk : UU l D cA μ d nc ns Qr (pc + 3) L2 S w k j) : UU l D cA μ d nc ns Qr pc L S w k j := by
  intro p e s m args below meth c A R Qf C H locs ls hP hD hS hL
  exact lv_iinc C.1.1 C.1.2.1 hd hL ht hv hn hl (fun ls2 h2 => kk p e s m args below meth c A R Qf C H locs ls2 hP hD hS h2)
theorem U_goto {off : Int} {tgt : Nat} (hd : decode μ.2.1 pc = .ok (.goto off, 3)) (ht : (pc : Int) + off = (tgt : Int)) (kk : UU l D cA μ d nc ns Qr tgt L S w k j) : UU l D cA μ d nc ns Qr pc L S w k j := by
  intro p e s m args below meth c A R Qf C H locs ls hP hD hS hL
  exact lv_goto C.1.1 C.1.2.1 hd ht (kk p e s m args below meth c A R Qf C H locs ls hP hD hS hL)
theorem U_icmp_ge {x y : Int32} {off : Int} {tgt : Nat} (hd : decode μ.2.1 pc = .ok (.if_icmp .ge off, 3)) (ht : (pc : Int) + off = (tgt : Int)) (kt : y ≤ x → UU l D cA μ d nc ns Qr tgt L S w k j) (kf : ¬ y ≤ x → UU l D cA μ d nc ns Qr (pc + 3) L S w k j) : UU l D cA μ d nc ns Qr pc L (.int y :: .int x :: S) w k j := by
  intro p e s m args below meth c A R Qf C H locs ls hP hD hS hL
  exact lv_icmp_ge C.1.1 C.1.2.1 hd ht (fun h => kt h p e s m args below meth c A R Qf C H locs ls hP hD hS hL) (fun h => kf h p e s m args below meth c A R Qf C H locs ls hP hD hS hL)
theorem U_iconst {n : Int} {v : Int32} (hd : decode μ.2.1 pc = .ok (.iconst n, 1)) (hv : Int32.ofInt n = v) (kk : UU l D cA μ d nc ns Qr (pc + 1) L (.int v :: S) w k j) : UU l D cA μ d nc ns Qr pc L S w k j := by
  intro p e s m args below meth c A R Qf C H locs ls hP hD hS hL
  exact lv_iconst C.1.1 C.1.2.1 hd hv (kk p e s m args below meth c A R Qf C H locs ls hP hD hS hL)
theorem U_bipush {n : Int} {v : Int32} (hd : decode μ.2.1 pc = .ok (.bipush n, 2)) (hv : (Int8.ofInt n).toInt32 = v) (kk : UU l D cA μ d nc ns Qr (pc + 2) L (.int v :: S) w k j) : UU l D cA μ d nc ns Qr pc L S w k j := by
  intro p e s m args below meth c A R Qf C H locs ls hP hD hS hL
  exact lv_bipush C.1.1 C.1.2.1 hd hv (kk p e s m args below meth c A R Qf C H locs ls hP hD hS hL)
theorem U_sipush {n : Int} {v : Int32} (hd : decode μ.2.1 pc = .ok (.sipush n, 3)) (hv : (Int16.ofInt n).toInt32 = v) (kk : UU l D cA μ d nc ns Qr (pc + 3) L (.int v :: S) w k j) : UU l D cA μ d nc ns Qr pc L S w k j := by
  intro p e s m args below meth c A R Qf C H locs ls hP hD hS hL
  exact lv_sipush C.1.1 C.1.2.1 hd hv (kk p e s m args below meth c A R Qf C H locs ls hP hD hS hL)
theorem U_dup {a : Nat} (hd : decode μ.2.1 pc = .ok (.dup, 1)) (kk : UU l D cA μ d nc ns Qr (pc + 1) L (.ref a :: .ref a :: S) w k j) : UU l D cA μ d nc ns Qr pc L (.ref a :: S) w k j := by
  intro p e s m args below meth c A R Qf C H locs ls hP hD hS hL
  exact lv_dup C.1.1 C.1.2.1 hd rfl (kk p e s m args below meth c A R Qf C H locs ls hP hD hS hL)
theorem U_obj {a idx : Nat} (hd : decode μ.2.1 pc = .ok (.invokespecial idx, 3)) (hl : Cond.methodLink μ.1.cls idx objectInit ∈ TG) (hi : Cond.instanceMethod objectInit ∈ TG) (hc : Cond.code objectInit ⟨#[0xb1]⟩ 1 none ∈ TG) (hd1 : 1 ≤ d) (kk : UU l D cA μ d nc ns Qr (pc + 3) L [] w k j) : UU l D cA μ d nc ns Qr pc L [.ref a] w k j := by
  intro p e s m args below meth c A R Qf C H locs ls hP hD hS hL
  obtain ⟨⟨hx, hb, hml, hown, hts, -⟩, -, -, -, ⟨r1, r2, -, -⟩, -⟩ := id C
  refine W.objInit hx hb hown (hts _ hl) (hts _ hi) (hts _ hc) rfl (by rw [hml]; exact hL.1) rfl hd (by omega) (show 2 * 0 + 0 + 12 ≤ R.locals by omega) ?_
  exact W.eq (g2 := F0 m (pc + 3) ls []) rfl (kk p e s m args below meth c A R Qf C H locs ls hP hD hS hL)
theorem U_new {ci idx N : Nat} {Cn : String} {T : u_T} {fs : List Value} (ty : Nat → FieldType) (hd : decode μ.2.1 pc = .ok (.new idx, 3)) (hc : vwCl[ci]? = some (Cn, T, N)) (hin : ∀ w ∈ u_ws Cn T N, w ∈ TG) (hty : ∀ k, k < N → parseFieldDescriptor (T k).2.2.1 = some (ty k)) (hcl : Cond.classLink μ.1.cls idx Cn ∈ TG) (hinst : Cond.instantiable Cn N ∈ TG) (hini : Cond.initialized Cn ∈ TG) (hfs : ∀ j, j < N → defaultValue (ty j) = vp_V fs j) (hk1 : k + 1 ≤ nc) (hj1 : j + N ≤ ns)
    (kk : ∀ q, UU l D cA μ d nc ns Qr (pc + 3) L (.ref q :: S) (w ++ [(q, .inr (ci, fs))]) (k + 1) (j + N)) : UU l D cA μ d nc ns Qr pc L S w k j := by
  intro p e s m args below meth c A R Qf C H locs ls hP hD hS hL
  obtain ⟨⟨hx, hb, hml, hown, hts, -⟩, hK, -, hA, ⟨r1, r2, r3, r4⟩, -⟩ := id C
  exact va_new hx hb hts hin ty hty hown (hts _ hcl) (hts _ hinst) (hts _ hini) hK hP hD hS hA hc hfs (by omega) (by omega) hd (fun q H1 hP1 hD1 hS1 => kk q p e s m args below meth c A R Qf C H1 locs ls hP1 hD1 hS1 hL)
theorem ty_eq {t : Nat} {ty : FieldType} {s : State} {cB : ClassId} {nm : String} (hK : va_K D vwCl (tyL cA) s) (ht : (tyL cA)[t]? = some (cA t, ty)) (hn : ∀ c : ClassId, va_RA s c ty → s.vm.findClass nm = some c) (h : va_K D vwCl (tyL cA ++ [(cB, ty)]) s) : cB = cA t := by
  have h1 := hn _ (hK.2 t _ ht).2
  have h2 := hn _ (h.2 5 (cB, ty) rfl).2
  rw [h1] at h2
  exact (Option.some.inj h2).symm
theorem U_newa {t bt N : Nat} {atype : ArrayType} {ty : FieldType} {nm : String} {n : Int32} (hd : decode μ.2.1 pc = .ok (.newarray atype, 2)) (hat : newarray.typeOf atype = ty) (harr : Cond.arrayClass (newarray.typeOf atype) ∈ TG) (ht : ∀ cA : Nat → ClassId, (tyL cA)[t]? = some (cA t, ty)) (hnm : ∀ (s : State) (c : ClassId), va_RA s c ty → s.vm.findClass nm = some c) (ha : ∀ c : ClassId, vp_cell c (N, .inl (fun _ => 0)) = arrV c N (fun _ => defaultValue ty)) (hn0 : ¬ n < 0) (hN : n.toNatClampNeg = N) (hb1 : componentBytes ty = bt) (hb2 : N * bt ≤ 536870912) (hk1 : k + 1 ≤ nc) (hj1 : j + N ≤ ns)
    (kk : ∀ q, UU l D cA μ d nc ns Qr (pc + 2) L (.ref q :: S) (w ++ [(q, .inl (cA t, N, .inl (fun _ => 0)))]) (k + 1) (j + N)) : UU l D cA μ d nc ns Qr pc L (.int n :: S) w k j := by
  intro p e s m args below meth c A R Qf C H locs ls hP hD hS hL
  obtain ⟨⟨hx, hb, hml, hown, hts, -⟩, hK, -, hA, ⟨r1, r2, r3, r4⟩, -⟩ := id C
  refine va_newa (N' := N) (a0 := (N, .inl (fun _ => 0))) (ty := ty) hx hb (hts _ harr) hat hK hP hD hS hA ha hn0 hN (by rw [hb1]; exact hb2) (by omega) (by omega) hd (fun q cB H1 hK1 hP1 hD1 hS1 => ?_)
  have e1 := ty_eq hK (ht cA) (hnm s) hK1
  subst e1
  exact kk q p e s m args below meth c A R Qf C H1 locs ls hP1 hD1 hS1 hL
theorem U_putF {idx q0 ci a N kf : Nat} {Cn : String} {T : u_T} {fs : List Value} {v : Value} {ty : FieldType} (ty0 : Nat → FieldType) (hd : decode μ.2.1 pc = .ok (.putfield idx, 3)) (hown1 : Cn = μ.1.cls) (hc : vwCl[ci]? = some (Cn, T, N)) (hin : ∀ w ∈ u_ws Cn T N, w ∈ TG) (hty : ∀ k, k < N → parseFieldDescriptor (T k).2.2.1 = some (ty0 k)) (hnm : ∀ a, a < N → ∀ b, b < N → a ≠ b → (T a).2.1 ≠ (T b).2.1) (he : w[q0]? = some (a, .inr (ci, fs))) (hk : kf < N) (hlink : Cond.fieldLink Cn idx Cn (T kf).2.1 (T kf).2.2.1 ∈ TG) (hT : (T kf).1 = Cn) (hfin : (T kf).2.2.2 = true) (hinit : μ.1.name = "<init>") (hdesc : parseFieldDescriptor (T kf).2.2.1 = some ty) (hnar : narrow ty v = v) (hfit : fits ty v = true) (hlen : kf < fs.length)
    (kk : UU l D cA μ d nc ns Qr (pc + 3) L S (w.set q0 (a, .inr (ci, fs.set kf v))) k j) : UU l D cA μ d nc ns Qr pc L (v :: .ref a :: S) w k j := by
  subst hown1
  intro p e s m args below meth c A R Qf C H locs ls hP hD hS hL
  obtain ⟨⟨hx, hb, hml, hown, hts, hnam⟩, hK, -, hA, -, -⟩ := id C
  exact va_putF (ref := μ.1.cls) hx hb hts hin ty0 hty hnm hown hK hP hD hS q0 he hc kf hk (hts _ hlink) (fun x h => by rw [hT] at h; exact h) hfin (hnam hinit) hT hdesc hnar hfit hlen hd (fun H1 locs1 hP1 hD1 hS1 => kk p e s m args below meth c A R Qf C H1 locs1 ls hP1 hD1 hS1 hL)
theorem U_getR {idx q0 ci a b N kf : Nat} {Cn : String} {T : u_T} {fs : List Value} (hd : decode μ.2.1 pc = .ok (.getfield idx, 3)) (hown1 : Cn = μ.1.cls) (hc : vwCl[ci]? = some (Cn, T, N)) (hin : ∀ w ∈ u_ws Cn T N, w ∈ TG) (he : w[q0]? = some (a, .inr (ci, fs))) (hk : kf < N) (hlink : Cond.fieldLink Cn idx Cn (T kf).2.1 (T kf).2.2.1 ∈ TG) (hT : (T kf).1 = Cn) (hv : fs[kf]? = some (.ref b))
    (kk : UU l D cA μ d nc ns Qr (pc + 3) L (.ref b :: S) w k j) : UU l D cA μ d nc ns Qr pc L (.ref a :: S) w k j := by
  subst hown1
  intro p e s m args below meth c A R Qf C H locs ls hP hD hS hL
  obtain ⟨⟨hx, hb, hml, hown, hts, hnam⟩, hK, -, hA, -, -⟩ := id C
  exact va_get (ref := μ.1.cls) hx hb hts hin hown hK hP q0 he hc kf hk (hts _ hlink) (fun x h => by rw [hT] at h; exact h) hv hd (kk p e s m args below meth c A R Qf C H locs ls hP hD hS hL)
theorem U_iast {q0 a n : Nat} {f : Nat → Int32} {i x : Int32} (hd : decode μ.2.1 pc = .ok (.iastore, 1)) (he : w[q0]? = some (a, .inl (cA 0, n, .inl f))) (hin : vp_in i n) (kk : UU l D cA μ d nc ns Qr (pc + 1) L S (w.set q0 (a, .inl (cA 0, n, .inl (upd f i.toNatClampNeg x)))) k j) : UU l D cA μ d nc ns Qr pc L (.int x :: .int i :: .ref a :: S) w k j := by
  intro p e s m args below meth c A R Qf C H locs ls hP hD hS hL
  obtain ⟨⟨hx, hb, hml, hown, hts, hnam⟩, hK, -, hA, -, -⟩ := id C
  exact va_iast hx hb hK hP hD hS q0 0 he rfl hin hd (fun H1 locs1 hP1 hD1 hS1 => kk p e s m args below meth c A R Qf C H1 locs1 ls hP1 hD1 hS1 hL)
theorem U_alen {q0 t a : Nat} {x : vp_A} {v : Int32} {ty : FieldType} (hd : decode μ.2.1 pc = .ok (.arraylength, 1)) (he : w[q0]? = some (a, .inl (cA t, x))) (ht : (tyL cA)[t]? = some (cA t, ty)) (hv : Int32.ofNat x.1 = v) (kk : UU l D cA μ d nc ns Qr (pc + 1) L (.int v :: S) w k j) : UU l D cA μ d nc ns Qr pc L (.ref a :: S) w k j := by
  intro p e s m args below meth c A R Qf C H locs ls hP hD hS hL
  obtain ⟨⟨hx, hb, hml, hown, hts, hnam⟩, hK, -, hA, -, -⟩ := id C
  exact va_alen hx hb hK hP q0 t he ht hv hd (kk p e s m args below meth c A R Qf C H locs ls hP hD hS hL)
/-- what stands behind a call -/
theorem U_join {wc wr : va_W} {Q2 : va_W → Prop} {As st : List Value} {p : Program} {e : Env} {s : State} {m : MethodId} {args : Array Value} {below : List Frame} {meth : Method} {c : Code} {A : Nat → Prop} {R : Room} {Qf : State → Prop} {H : Heap} {locs : List Loc} {ls : Array Slot} {nc2 ns2 : Nat} (C : UX l D cA μ d nc ns Qr p e s m args below meth c A R Qf) (hP : va_P D vwCl w H) (hD : va_D A w) (hS : va_S A s.heap H locs) (hL : lv_has ls μ.2.2.1 L) (isC isR : List Nat) (hC : isC.map (fun i => w[i]?) = wc.map some) (hR : isR.map (fun i => w[i]?) = wr.map some) (hn : va_nd isR = true) (hdis : ∀ i ∈ isR, i ∉ isC)
    (run : va_Run p l e R s m args below meth c H locs k j nc2 ns2 (F0 m pc ls st) S (QcC D wc H.size Q2 As.toArray) (va_A wc H.size)) (kk : ∀ u, Q2 u → UU l D cA μ d nc ns Qr (pc + 3) L S (wr ++ u) (k + nc2) (j + ns2)) : W p l e R s m args below meth c H locs k j Qf (F0 m pc ls st) := by
  have hA := C.2.2.2.1
  have hFc := va_free (wc := wc) hD hS hA isC hC
  refine va_callv run hS (fun q _ h => hFc q h) hFc (fun u t H1 locs1 ht hvm hw hB hz1 hk1 hS1 => ?_)
  obtain ⟨hP1, hD1⟩ := hB
  rw [ht] at hP1
  obtain ⟨hP2, hD2⟩ := va_join (wr := wr) (w1 := u) hP hD isC isR hC hR hn hdis hk1 hFc hP1 hD1
  exact kk u hw p e s m args below meth c A R Qf C H1 locs1 ls hP2 hD2 hS1 hL
theorem PcC_blind {As : List Value} {wc : va_W} {sz : Nat} : FrameBlind (PcC D cA As wc sz) := fun a U g mk q => by
  obtain ⟨q1, q2, q3, q4, q5, q6⟩ := q
  exact ⟨q1, q2, q3, va_K.moved (u := U) (U := U.calling g mk a) (Vm.Alike.refl U.vm) q4, q5, NO.same (s := U) (U := U.calling g mk a) rfl q6⟩
theorem PcC_pre {As : List Value} {wc : va_W} {s : State} {H : Heap} {A : Nat → Prop} (hK : va_K D vwCl (tyL cA) s) (hN : NO s) (isC : List Nat) (hP : va_P D vwCl w H) (hD : va_D A w) (hs : isC.filterMap (fun i => w[i]?) = wc) (hC : isC.map (fun i => w[i]?) = wc.map some) (hnd : va_nd isC = true) : ∀ U : State, U.heap = H → s.WarmedH U.vm → PcC D cA As wc H.size As.toArray U := fun U hU hW =>
  ⟨rfl, by rw [hU], by rw [hU]; exact hP.sub isC hs, va_K.moved hW.alike hK, (hD.sub isC hnd hC).weaken (fun _ _ _ _ => trivial), hN.warm hW⟩
theorem U_callI {a idx d2 nc2 ns2 : Nat} {wc wr : va_W} {Q2 : va_W → Prop} (hd : decode μ.2.1 pc = .ok (.invokespecial idx, 3)) (hl : LK μ.1.cls idx ν.1) (hv : MK ν) (hins : Cond.instanceMethod ν.1 ∈ TG) (hin : ν.1.name = "<init>") (hret : ν.2.2.2.1 = none) (hnp : ν.2.2.2.2 = 0) (hm : Mk l D cA ν d2 nc2 ns2 [.ref a] wc Q2) (hd2 : d2 + 1 ≤ d) (hk1 : k + nc2 ≤ nc) (hj1 : j + ns2 ≤ ns) (isC isR : List Nat) (hs : isC.filterMap (fun i => w[i]?) = wc) (hnd : va_nd isC = true) (hC : isC.map (fun i => w[i]?) = wc.map some) (hR : isR.map (fun i => w[i]?) = wr.map some) (hn : va_nd isR = true) (hdis : ∀ i ∈ isR, i ∉ isC) (hSl : (S.map fun v => v.category).sum ≤ 8)
    (kk : ∀ u, Q2 u → UU l D cA μ d nc ns Qr (pc + 3) L S (wr ++ u) (k + nc2) (j + ns2)) : UU l D cA μ d nc ns Qr pc L (.ref a :: S) w k j := by
  intro p e s m args below meth c A R Qf C H locs ls hP hD hS hL
  obtain ⟨⟨hx, hb, hml, hown, hts, hnam⟩, hK, hN, hA, ⟨r1, r2, r3, r4⟩, -⟩ := id C
  refine U_join (As := [.ref a]) C hP hD hS hL isC isR hC hR hn hdis ?_ kk
  have hRm : (rmC d2 nc2 ns2).frames + 1 ≤ R.frames ∧ 8 + (ν.2.2.1 + 11) + (rmC d2 nc2 ns2).locals ≤ R.locals := ⟨by show d2 + 1 ≤ _; omega, by have := hv.2.2.2.2; show 8 + (ν.2.2.1 + 11) + 36 * d2 ≤ R.locals; omega⟩
  have hp0 := hv.2.2.1
  rw [hnp] at hp0
  have hws : wsM ν = Cond.code ν.1 ν.2.1 ν.2.2.1 none :: TG := by unfold wsM; rw [hret]
  have hG : GoodIn TG (wsM ν) := goodIn_wsM hv
  rcases hl with hl | ⟨host, hl⟩
  · exact va_runI (As := []) (rest := S) (b := a) (index := idx) ⟨hx, hb, hml, hown, hts⟩ (hm H.size) (cwI 0 hts hG hws rfl rfl (hts _ hv.2.1) (hts _ hl) (hts _ hins) hin hp0 hRm) ⟨PcC_blind, PcC_pre hK hN isC hP hD hs hC hnd⟩ rfl rfl hL.1 rfl (by show 2 * 0 + _ ≤ 8; omega) hd ⟨by omega, by omega⟩
  · exact va_runIN (As := []) (rest := S) (b := a) (index := idx) (host := host) ⟨hx, hb, hml, hown, hts⟩ (hm H.size) ⟨va_cnB 0 hts hG hws rfl rfl (hN.1 _ _ _ _ hl) (hts _ hv.2.1) hp0 hRm, hin, hts _ hins⟩ ⟨PcC_blind, PcC_pre hK hN isC hP hD hs hC hnd⟩ rfl rfl hL.1 rfl (by show 2 * 0 + _ ≤ 8; omega) hd ⟨by omega, by omega⟩
theorem U_callV {a idx d2 nc2 ns2 ci N q0 : Nat} {fs : List Value} {T : u_T} {wc wr : va_W} {Q2 : va_W → Prop} (hd : decode μ.2.1 pc = .ok (.invokevirtual idx, 3)) (hl : Cond.methodLink μ.1.cls idx ν.1 ∈ TG) (hv : MV ν) (hret : ν.2.2.2.1 = none) (hnp : ν.2.2.2.2 = 0) (he : w[q0]? = some (a, .inr (ci, fs))) (hc : vwCl[ci]? = some (ν.1.cls, T, N)) (hm : Mk l D cA ν d2 nc2 ns2 [.ref a] wc Q2) (hd2 : d2 + 1 ≤ d) (hk1 : k + nc2 ≤ nc) (hj1 : j + ns2 ≤ ns) (isC isR : List Nat) (hs : isC.filterMap (fun i => w[i]?) = wc) (hnd : va_nd isC = true) (hC : isC.map (fun i => w[i]?) = wc.map some) (hR : isR.map (fun i => w[i]?) = wr.map some) (hn : va_nd isR = true) (hdis : ∀ i ∈ isR, i ∉ isC) (hSl : (S.map fun v => v.category).sum ≤ 8)
    (kk : ∀ u, Q2 u → UU l D cA μ d nc ns Qr (pc + 3) L S (wr ++ u) (k + nc2) (j + ns2)) : UU l D cA μ d nc ns Qr pc L (.ref a :: S) w k j := by
  intro p e s m args below meth c A R Qf C H locs ls hP hD hS hL
  obtain ⟨⟨hx, hb, hml, hown, hts, hnam⟩, hK, hN, hA, ⟨r1, r2, r3, r4⟩, -⟩ := id C
  refine U_join (As := [.ref a]) C hP hD hS hL isC isR hC hR hn hdis ?_ kk
  have hRm : (rmC d2 nc2 ns2).frames + 1 ≤ R.frames ∧ 8 + (ν.2.2.1 + 11) + (rmC d2 nc2 ns2).locals ≤ R.locals := ⟨by show d2 + 1 ≤ _; omega, by have := hv.1.2.2.2.2; show 8 + (ν.2.2.1 + 11) + 36 * d2 ≤ R.locals; omega⟩
  have hp0 := hv.1.2.2.1
  rw [hnp] at hp0
  have hrec := va_recv hK hP hc he
  have hret' : wsM ν = Cond.code ν.1 ν.2.1 ν.2.2.1 none :: TG := by unfold wsM; rw [hret]
  exact va_runV (As := []) (rest := S) (b := a) (C := ν.1.cls) (index := idx) ⟨hx, hb, hml, hown, hts⟩ (hm H.size) ⟨callB_of 0 hts (goodIn_wsM hv.1) hret' rfl rfl (hts _ hv.1.2.1) (hts _ hl) hp0 hRm, hts _ hv.2.1, hts _ hv.2.2⟩ ⟨PcC_blind, hrec, PcC_pre hK hN isC hP hD hs hC hnd⟩ rfl rfl hL.1 rfl (by show 2 * 0 + _ ≤ 8; omega) hd ⟨by omega, by omega⟩
theorem U_callS {a idx d2 nc2 ns2 : Nat} {v : Int32} {wc wr : va_W} {Q2 : va_W → Prop} (hd : decode μ.2.1 pc = .ok (.invokestatic idx, 3)) (hl : Cond.methodLink μ.1.cls idx ν.1 ∈ TG) (hv : MS ν) (hret : ν.2.2.2.1 = none) (hnp : ν.2.2.2.2 = 2) (hm : Mk l D cA ν d2 nc2 ns2 [.ref a, .int v] wc Q2) (hd2 : d2 + 1 ≤ d) (hk1 : k + nc2 ≤ nc) (hj1 : j + ns2 ≤ ns) (isC isR : List Nat) (hs : isC.filterMap (fun i => w[i]?) = wc) (hnd : va_nd isC = true) (hC : isC.map (fun i => w[i]?) = wc.map some) (hR : isR.map (fun i => w[i]?) = wr.map some) (hn : va_nd isR = true) (hdis : ∀ i ∈ isR, i ∉ isC) (hSl : (S.map fun v => v.category).sum ≤ 8)
    (kk : ∀ u, Q2 u → UU l D cA μ d nc ns Qr (pc + 3) L S (wr ++ u) (k + nc2) (j + ns2)) : UU l D cA μ d nc ns Qr pc L (.int v :: .ref a :: S) w k j := by
  intro p e s m args below meth c A R Qf C H locs ls hP hD hS hL
  obtain ⟨⟨hx, hb, hml, hown, hts, hnam⟩, hK, hN, hA, ⟨r1, r2, r3, r4⟩, -⟩ := id C
  refine U_join (As := [.ref a, .int v]) C hP hD hS hL isC isR hC hR hn hdis ?_ kk
  have hRm : (rmC d2 nc2 ns2).frames + 1 ≤ R.frames ∧ 8 + (ν.2.2.1 + 11) + (rmC d2 nc2 ns2).locals ≤ R.locals := ⟨by show d2 + 1 ≤ _; omega, by have := hv.1.2.2.2.2; show 8 + (ν.2.2.1 + 11) + 36 * d2 ≤ R.locals; omega⟩
  have hp0 := hv.1.2.2.1
  rw [hnp] at hp0
  have hret' : wsM ν = Cond.code ν.1 ν.2.1 ν.2.2.1 none :: TG := by unfold wsM; rw [hret]
  exact va_runS (As := [.ref a, .int v]) (rest := S) (index := idx) ⟨hx, hb, hml, hown, hts⟩ (hm H.size) ⟨callB_of 2 hts (goodIn_wsM hv.1) hret' rfl rfl (hts _ hv.1.2.1) (hts _ hl) hp0 hRm, hts _ hv.2⟩ ⟨PcC_blind, PcC_pre hK hN isC hP hD hs hC hnd⟩ rfl rfl hL.1 rfl (by show 2 * 0 + _ ≤ 8; omega) hd ⟨by omega, by omega⟩
theorem vr_map {N : Nat} {r : Nat → Nat} {f : Nat → va_E} {e : va_E} : va_pl ([] ++ (List.range N).map r) (vr_up f ((List.range N).map r) e) = (List.range N).map (fun i => (r i, e)) := by
  unfold va_pl
  rw [List.nil_append, List.map_map]
  refine List.map_congr_left (fun i hi => ?_)
  show (r i, vr_up f ((List.range N).map r) e (r i)) = _
  rw [vr_up_in (List.mem_map.mpr ⟨i, hi, rfl⟩)]
theorem U_mna {N K idx : Nat} {n n2 : Int32} (hd : decode μ.2.1 pc = .ok (.multianewarray idx 2, 4)) (hcl : Cond.classLink μ.1.cls idx "[[I" ∈ TG) (harr : Cond.arrayClass .int ∈ TG) (hn0 : ¬ n < 0) (hk0 : ¬ n2 < 0) (hN : n.toNatClampNeg = N) (hK2 : n2.toNatClampNeg = K) (hb1 : N * 4 ≤ 536870912) (hb2 : K * componentBytes .int ≤ 536870912) (hb3 : K ≤ 536870912) (hk1 : k + (1 + N) ≤ nc) (hj1 : j + (N + N * K) ≤ ns)
    (kk : ∀ (q : Nat) (r : Nat → Nat), UU l D cA μ d nc ns Qr (pc + 4) L (.ref q :: S) ((w ++ [(q, .inl (cA 4, N, .inr (.inr (.inr (.inr (fun i => if i < N then some (r i) else none))))))]) ++ (List.range N).map (fun i => (r i, .inl (cA 0, K, .inl (fun _ => 0))))) (k + 1 + N) (j + N + N * K)) : UU l D cA μ d nc ns Qr pc L (.int n2 :: .int n :: S) w k j := by
  intro p e s m args below meth c A R Qf C H locs ls hP hD hS hL
  obtain ⟨⟨hx, hb, hml, hown, hts, hnam⟩, hK, hN3, hA, ⟨r1, r2, r3, r4⟩, -⟩ := id C
  have hcy := va_nm_int (hK.2 0 _ rfl).2
  refine va_mna (X := w) (L := []) (f := fun _ => .inr (0, [])) (ty := .int) (cy := cA 0) (z := (K, .inl (fun _ => 0))) hx hb hown (hts _ hcl) (ov_alike (Vm.Alike.refl _) hN3.2) (hts _ harr) hcy hK (by rw [show va_pl [] _ = [] from rfl, List.append_nil]; exact hP) (by rw [show va_pl [] _ = [] from rfl, List.append_nil]; exact hD) hS hA hn0 hk0 hN hK2 hb1 hb2 hb3 rfl rfl (by omega) (by omega) (fun c => by show ({ cls := c, slots := Array.replicate K (.int 0), vm := .none } : Cell) = arrV c K (fun _ => .int 0); rw [arrV_new]) hd (fun q r cB H1 _ _ hK1 hP1 hD1 hS1 => ?_)
  have e1 : cB = cA 4 := ty_eq (nm := "[[I") hK rfl (fun c h => h) hK1
  subst e1
  rw [vr_map] at hP1 hD1
  exact kk q r p e s m args below meth c A R Qf C H1 locs ls hP1 hD1 hS1 hL
end P44
