/-! THE MACHINE LAYER, part c: the rules of G, one an instruction (written by program) -/
section GR
variable {l : Launch} {α : Nat → Nat} {D : va_G} {cA : Nat → ClassId} {μ ν : MI} {sc : Option (Nat × (Nat → Int32))} {d : Nat} {Q : AV → Mem → Prop} {pc : Nat} {L : List (Option AV)} {S : List AV} {M : Mem}
def lvp (α : Nat → Nat) : Nat → List (Option AV) → List (Nat × Value)
  | _, [] => []
  | k, none :: L => lvp α (k + 1) L
  | k, some v :: L => (k, cv α v) :: lvp α (k + 1) L
theorem lvp_mem {α : Nat → Nat} {q : Nat × Value} : ∀ (L : List (Option AV)) (k : Nat), q ∈ lvp α k L ↔ ∃ (j : Nat) (v : AV), q = (k + j, cv α v) ∧ L[j]? = some (some v)
  | [], k => by simp [lvp]
  | none :: L, k => by
    rw [show lvp α k (none :: L) = lvp α (k + 1) L from rfl, lvp_mem L (k + 1)]
    constructor
    · rintro ⟨j, v, rfl, h⟩
      exact ⟨j + 1, v, by rw [show k + 1 + j = k + (j + 1) by omega], by simpa using h⟩
    · rintro ⟨j, v, rfl, h⟩
      cases j with
      | zero => simp at h
      | succ j => exact ⟨j, v, by rw [show k + 1 + j = k + (j + 1) by omega], by simpa using h⟩
  | some u :: L, k => by
    rw [show lvp α k (some u :: L) = (k, cv α u) :: lvp α (k + 1) L from rfl, List.mem_cons, lvp_mem L (k + 1)]
    constructor
    · rintro (rfl | ⟨j, v, rfl, h⟩)
      · exact ⟨0, u, rfl, by simp⟩
      · exact ⟨j + 1, v, by rw [show k + 1 + j = k + (j + 1) by omega], by simpa using h⟩
    · rintro ⟨j, v, rfl, h⟩
      cases j with
      | zero =>
        simp at h
        subst h
        exact Or.inl rfl
      | succ j => exact Or.inr ⟨j, v, by rw [show k + 1 + j = k + (j + 1) by omega], by simpa using h⟩
theorem cv_cat {α : Nat → Nat} (v : AV) : ¬ (cv α v).category = 2 := by cases v <;> (intro h; cases h)
theorem LH.has {ls : Array Slot} {nL : Nat} (h : LH α ls nL L) : lv_has ls nL (lvp α 0 L) := ⟨h.1, h.2.1, fun q hq => by
  obtain ⟨j, v, rfl, h2⟩ := (lvp_mem L 0).mp hq
  simpa using h.2.2.2 j v h2⟩
theorem LH.to {ls ls' : Array Slot} {nL i : Nat} {v : AV} (h : LH α ls nL L) (h2 : lv_has ls' nL ((i, cv α v) :: (lvp α 0 L).filter (fun q => !(q.1 == i) && !(q.1 + 1 == i && q.2.category == 2)))) : LH α ls' nL (L.set i (some v)) := by
  refine ⟨h2.1, h2.2.1, by simp [h.2.2.1], fun j u hu => ?_⟩
  rw [List.getElem?_set] at hu
  by_cases hj : i = j
  · subst hj
    rw [if_pos rfl] at hu
    split at hu
    · simp at hu
      subst hu
      exact h2.2.2 _ List.mem_cons_self
    · cases hu
  · rw [if_neg hj] at hu
    have := h2.2.2 (j, cv α u) (List.mem_cons_of_mem _ (List.mem_filter.mpr ⟨(lvp_mem L 0).mpr ⟨j, u, by simp, hu⟩, by
      have hc := cv_cat (α := α) u
      simp [Ne.symm hj, hc]⟩))
    exact this
theorem LH.at {ls : Array Slot} {nL i : Nat} {v : AV} (h : LH α ls nL L) (hi : L[i]? = some (some v)) : ls[i]? = some (.val (cv α v)) := h.2.2.2 i v hi
theorem LH.lt {ls : Array Slot} {nL i : Nat} (h : LH α ls nL L) (hi : i < L.length) : i < nL := by rw [← h.2.2.1]; exact hi
theorem G_iconst {n : Int} {v : Int32} (hd : decode μ.2.1 pc = .ok (.iconst n, 1)) (hv : Int32.ofInt n = v) (kk : G l α D cA μ sc d Q (pc + 1) L (.inl v :: S) M) : G l α D cA μ sc d Q pc L S M := by
  intro p e s m args below meth c A cells slots R Qf C H locs ls hP hS hL
  exact lv_iconst C.1.1 C.1.2.1 hd hv (kk p e s m args below meth c A cells slots R Qf C H locs ls hP hS hL)
theorem G_bipush {n : Int} {v : Int32} (hd : decode μ.2.1 pc = .ok (.bipush n, 2)) (hv : (Int8.ofInt n).toInt32 = v) (kk : G l α D cA μ sc d Q (pc + 2) L (.inl v :: S) M) : G l α D cA μ sc d Q pc L S M := by
  intro p e s m args below meth c A cells slots R Qf C H locs ls hP hS hL
  exact lv_bipush C.1.1 C.1.2.1 hd hv (kk p e s m args below meth c A cells slots R Qf C H locs ls hP hS hL)
theorem G_sipush {n : Int} {v : Int32} (hd : decode μ.2.1 pc = .ok (.sipush n, 3)) (hv : (Int16.ofInt n).toInt32 = v) (kk : G l α D cA μ sc d Q (pc + 3) L (.inl v :: S) M) : G l α D cA μ sc d Q pc L S M := by
  intro p e s m args below meth c A cells slots R Qf C H locs ls hP hS hL
  exact lv_sipush C.1.1 C.1.2.1 hd hv (kk p e s m args below meth c A cells slots R Qf C H locs ls hP hS hL)
theorem G_iload_n {k : Fin 4} {i : Nat} {x : Int32} (hd : decode μ.2.1 pc = .ok (.iload_n k, 1)) (hi : (k : Nat) = i) (hl : L[i]? = some (some (.inl x))) (kk : G l α D cA μ sc d Q (pc + 1) L (.inl x :: S) M) : G l α D cA μ sc d Q pc L S M := by
  intro p e s m args below meth c A cells slots R Qf C H locs ls hP hS hL
  exact lv_iload_n C.1.1 C.1.2.1 hd hi (hL.at hl) (kk p e s m args below meth c A cells slots R Qf C H locs ls hP hS hL)
theorem G_iload {i : Nat} {x : Int32} (hd : decode μ.2.1 pc = .ok (.iload i, 2)) (hl : L[i]? = some (some (.inl x))) (kk : G l α D cA μ sc d Q (pc + 2) L (.inl x :: S) M) : G l α D cA μ sc d Q pc L S M := by
  intro p e s m args below meth c A cells slots R Qf C H locs ls hP hS hL
  exact lv_iload C.1.1 C.1.2.1 hd (hL.at hl) (kk p e s m args below meth c A cells slots R Qf C H locs ls hP hS hL)
theorem G_aload_n {k : Fin 4} {i : Nat} {x : Nat} (hd : decode μ.2.1 pc = .ok (.aload_n k, 1)) (hi : (k : Nat) = i) (hl : L[i]? = some (some (.inr x))) (kk : G l α D cA μ sc d Q (pc + 1) L (.inr x :: S) M) : G l α D cA μ sc d Q pc L S M := by
  intro p e s m args below meth c A cells slots R Qf C H locs ls hP hS hL
  exact lv_aload_n C.1.1 C.1.2.1 hd hi (hL.at hl) (kk p e s m args below meth c A cells slots R Qf C H locs ls hP hS hL)
theorem G_aload {i : Nat} {x : Nat} (hd : decode μ.2.1 pc = .ok (.aload i, 2)) (hl : L[i]? = some (some (.inr x))) (kk : G l α D cA μ sc d Q (pc + 2) L (.inr x :: S) M) : G l α D cA μ sc d Q pc L S M := by
  intro p e s m args below meth c A cells slots R Qf C H locs ls hP hS hL
  exact lv_aload C.1.1 C.1.2.1 hd (hL.at hl) (kk p e s m args below meth c A cells slots R Qf C H locs ls hP hS hL)
theorem G_istore_n {k : Fin 4} {i : Nat} {x : Int32} {L2 : List (Option AV)} (hd : decode μ.2.1 pc = .ok (.istore_n k, 1)) (hi : (k : Nat) = i) (hn : i < L.length) (hl : L.set i (some (.inl x)) = L2) (kk : G l α D cA μ sc d Q (pc + 1) L2 S M) : G l α D cA μ sc d Q pc L (.inl x :: S) M := by
  subst hl
  intro p e s m args below meth c A cells slots R Qf C H locs ls hP hS hL
  exact lv_istore_n C.1.1 C.1.2.1 hd hi hL.has (hL.lt hn) rfl (fun ls2 h2 => kk p e s m args below meth c A cells slots R Qf C H locs ls2 hP hS (hL.to (v := .inl x) h2))
theorem G_istore {i : Nat} {x : Int32} {L2 : List (Option AV)} (hd : decode μ.2.1 pc = .ok (.istore i, 2)) (hn : i < L.length) (hl : L.set i (some (.inl x)) = L2) (kk : G l α D cA μ sc d Q (pc + 2) L2 S M) : G l α D cA μ sc d Q pc L (.inl x :: S) M := by
  subst hl
  intro p e s m args below meth c A cells slots R Qf C H locs ls hP hS hL
  exact lv_istore C.1.1 C.1.2.1 hd  hL.has (hL.lt hn) rfl (fun ls2 h2 => kk p e s m args below meth c A cells slots R Qf C H locs ls2 hP hS (hL.to (v := .inl x) h2))
theorem G_astore_n {k : Fin 4} {i : Nat} {x : Nat} {L2 : List (Option AV)} (hd : decode μ.2.1 pc = .ok (.astore_n k, 1)) (hi : (k : Nat) = i) (hn : i < L.length) (hl : L.set i (some (.inr x)) = L2) (kk : G l α D cA μ sc d Q (pc + 1) L2 S M) : G l α D cA μ sc d Q pc L (.inr x :: S) M := by
  subst hl
  intro p e s m args below meth c A cells slots R Qf C H locs ls hP hS hL
  exact lv_astore_n C.1.1 C.1.2.1 hd hi hL.has (hL.lt hn) rfl (fun ls2 h2 => kk p e s m args below meth c A cells slots R Qf C H locs ls2 hP hS (hL.to (v := .inr x) h2))
theorem G_astore {i : Nat} {x : Nat} {L2 : List (Option AV)} (hd : decode μ.2.1 pc = .ok (.astore i, 2)) (hn : i < L.length) (hl : L.set i (some (.inr x)) = L2) (kk : G l α D cA μ sc d Q (pc + 2) L2 S M) : G l α D cA μ sc d Q pc L (.inr x :: S) M := by
  subst hl
  intro p e s m args below meth c A cells slots R Qf C H locs ls hP hS hL
  exact lv_astore C.1.1 C.1.2.1 hd  hL.has (hL.lt hn) rfl (fun ls2 h2 => kk p e s m args below meth c A cells slots R Qf C H locs ls2 hP hS (hL.to (v := .inr x) h2))
theorem G_iinc {i : Nat} {n : Int} {x v : Int32} {L2 : List (Option AV)} (hd : decode μ.2.1 pc = .ok (.iinc i n, 3)) (hg : L[i]? = some (some (.inl x))) (hv : x + Int32.ofInt n = v) (hl : L.set i (some (.inl v)) = L2) (kk : G l α D cA μ sc d Q (pc + 3) L2 S M) : G l α D cA μ sc d Q pc L S M := by
  subst hl
  intro p e s m args below meth c A cells slots R Qf C H locs ls hP hS hL
  obtain ⟨k, hk⟩ := List.getElem?_of_mem ((lvp_mem (α := α) (q := (i, cv α (.inl x))) L 0).mpr ⟨i, .inl x, by simp, hg⟩)
  exact lv_iinc (k := k) C.1.1 C.1.2.1 hd hL.has hk hv (hL.lt (List.getElem?_eq_some_iff.mp hg).1) rfl (fun ls2 h2 => kk p e s m args below meth c A cells slots R Qf C H locs ls2 hP hS (hL.to (v := .inl v) h2))
theorem G_iadd {x y v : Int32} (hd : decode μ.2.1 pc = .ok (.iadd, 1)) (hv : x + y = v) (kk : G l α D cA μ sc d Q (pc + 1) L (.inl v :: S) M) : G l α D cA μ sc d Q pc L (.inl y :: .inl x :: S) M := by
  intro p e s m args below meth c A cells slots R Qf C H locs ls hP hS hL
  subst hv
  exact lv_iadd C.1.1 C.1.2.1 hd (kk p e s m args below meth c A cells slots R Qf C H locs ls hP hS hL)
theorem G_isub {x y v : Int32} (hd : decode μ.2.1 pc = .ok (.isub, 1)) (hv : x - y = v) (kk : G l α D cA μ sc d Q (pc + 1) L (.inl v :: S) M) : G l α D cA μ sc d Q pc L (.inl y :: .inl x :: S) M := by
  intro p e s m args below meth c A cells slots R Qf C H locs ls hP hS hL
  subst hv
  exact lv_isub C.1.1 C.1.2.1 hd (kk p e s m args below meth c A cells slots R Qf C H locs ls hP hS hL)
theorem G_imul {x y v : Int32} (hd : decode μ.2.1 pc = .ok (.imul, 1)) (hv : x * y = v) (kk : G l α D cA μ sc d Q (pc + 1) L (.inl v :: S) M) : G l α D cA μ sc d Q pc L (.inl y :: .inl x :: S) M := by
  intro p e s m args below meth c A cells slots R Qf C H locs ls hP hS hL
  subst hv
  exact lv_imul C.1.1 C.1.2.1 hd (kk p e s m args below meth c A cells slots R Qf C H locs ls hP hS hL)
theorem G_iand {x y v : Int32} (hd : decode μ.2.1 pc = .ok (.iand, 1)) (hv : x &&& y = v) (kk : G l α D cA μ sc d Q (pc + 1) L (.inl v :: S) M) : G l α D cA μ sc d Q pc L (.inl y :: .inl x :: S) M := by
  intro p e s m args below meth c A cells slots R Qf C H locs ls hP hS hL
  subst hv
  exact lv_iand C.1.1 C.1.2.1 hd (kk p e s m args below meth c A cells slots R Qf C H locs ls hP hS hL)
theorem G_ior {x y v : Int32} (hd : decode μ.2.1 pc = .ok (.ior, 1)) (hv : x ||| y = v) (kk : G l α D cA μ sc d Q (pc + 1) L (.inl v :: S) M) : G l α D cA μ sc d Q pc L (.inl y :: .inl x :: S) M := by
  intro p e s m args below meth c A cells slots R Qf C H locs ls hP hS hL
  subst hv
  exact lv_ior C.1.1 C.1.2.1 hd (kk p e s m args below meth c A cells slots R Qf C H locs ls hP hS hL)
theorem G_ixor {x y v : Int32} (hd : decode μ.2.1 pc = .ok (.ixor, 1)) (hv : x ^^^ y = v) (kk : G l α D cA μ sc d Q (pc + 1) L (.inl v :: S) M) : G l α D cA μ sc d Q pc L (.inl y :: .inl x :: S) M := by
  intro p e s m args below meth c A cells slots R Qf C H locs ls hP hS hL
  subst hv
  exact lv_ixor C.1.1 C.1.2.1 hd (kk p e s m args below meth c A cells slots R Qf C H locs ls hP hS hL)
theorem G_ishl {x y v : Int32} (hd : decode μ.2.1 pc = .ok (.ishl, 1)) (hv : x <<< (y &&& 31) = v) (kk : G l α D cA μ sc d Q (pc + 1) L (.inl v :: S) M) : G l α D cA μ sc d Q pc L (.inl y :: .inl x :: S) M := by
  intro p e s m args below meth c A cells slots R Qf C H locs ls hP hS hL
  subst hv
  exact lv_ishl C.1.1 C.1.2.1 hd (kk p e s m args below meth c A cells slots R Qf C H locs ls hP hS hL)
theorem G_ishr {x y v : Int32} (hd : decode μ.2.1 pc = .ok (.ishr, 1)) (hv : x >>> (y &&& 31) = v) (kk : G l α D cA μ sc d Q (pc + 1) L (.inl v :: S) M) : G l α D cA μ sc d Q pc L (.inl y :: .inl x :: S) M := by
  intro p e s m args below meth c A cells slots R Qf C H locs ls hP hS hL
  subst hv
  exact lv_ishr C.1.1 C.1.2.1 hd (kk p e s m args below meth c A cells slots R Qf C H locs ls hP hS hL)
theorem G_idiv {x y v : Int32} (hd : decode μ.2.1 pc = .ok (.idiv, 1)) (hne : ¬ y = 0) (hv : x / y = v) (kk : G l α D cA μ sc d Q (pc + 1) L (.inl v :: S) M) : G l α D cA μ sc d Q pc L (.inl y :: .inl x :: S) M := by
  intro p e s m args below meth c A cells slots R Qf C H locs ls hP hS hL
  subst hv
  exact lv_idiv C.1.1 C.1.2.1 hd hne (kk p e s m args below meth c A cells slots R Qf C H locs ls hP hS hL)
theorem G_irem {x y v : Int32} (hd : decode μ.2.1 pc = .ok (.irem, 1)) (hne : ¬ y = 0) (hv : x - x / y * y = v) (kk : G l α D cA μ sc d Q (pc + 1) L (.inl v :: S) M) : G l α D cA μ sc d Q pc L (.inl y :: .inl x :: S) M := by
  intro p e s m args below meth c A cells slots R Qf C H locs ls hP hS hL
  subst hv
  exact lv_irem C.1.1 C.1.2.1 hd hne (kk p e s m args below meth c A cells slots R Qf C H locs ls hP hS hL)
theorem G_i2b {x v : Int32} (hd : decode μ.2.1 pc = .ok (.i2b, 1)) (hv : x.toInt8.toInt32 = v) (kk : G l α D cA μ sc d Q (pc + 1) L (.inl v :: S) M) : G l α D cA μ sc d Q pc L (.inl x :: S) M := by
  intro p e s m args below meth c A cells slots R Qf C H locs ls hP hS hL
  exact lv_i2b C.1.1 C.1.2.1 hd hv (kk p e s m args below meth c A cells slots R Qf C H locs ls hP hS hL)
theorem G_i2c {x v : Int32} (hd : decode μ.2.1 pc = .ok (.i2c, 1)) (hv : (x.toUInt32 % 65536).toInt32 = v) (kk : G l α D cA μ sc d Q (pc + 1) L (.inl v :: S) M) : G l α D cA μ sc d Q pc L (.inl x :: S) M := by
  intro p e s m args below meth c A cells slots R Qf C H locs ls hP hS hL
  exact lv_i2c C.1.1 C.1.2.1 hd hv (kk p e s m args below meth c A cells slots R Qf C H locs ls hP hS hL)
theorem G_dup {x : AV} (hd : decode μ.2.1 pc = .ok (.dup, 1)) (kk : G l α D cA μ sc d Q (pc + 1) L (x :: x :: S) M) : G l α D cA μ sc d Q pc L (x :: S) M := by
  intro p e s m args below meth c A cells slots R Qf C H locs ls hP hS hL
  exact lv_dup C.1.1 C.1.2.1 hd (by cases x <;> rfl) (kk p e s m args below meth c A cells slots R Qf C H locs ls hP hS hL)
theorem G_pop {x : AV} (hd : decode μ.2.1 pc = .ok (.pop, 1)) (kk : G l α D cA μ sc d Q (pc + 1) L S M) : G l α D cA μ sc d Q pc L (x :: S) M := by
  intro p e s m args below meth c A cells slots R Qf C H locs ls hP hS hL
  exact lv_pop C.1.1 C.1.2.1 hd (by cases x <;> rfl) (kk p e s m args below meth c A cells slots R Qf C H locs ls hP hS hL)
theorem G_dup2 {x y : AV} (hd : decode μ.2.1 pc = .ok (.dup2, 1)) (kk : G l α D cA μ sc d Q (pc + 1) L (x :: y :: x :: y :: S) M) : G l α D cA μ sc d Q pc L (x :: y :: S) M := by
  intro p e s m args below meth c A cells slots R Qf C H locs ls hP hS hL
  exact lv_dup2_11 C.1.1 C.1.2.1 hd (by cases x <;> rfl) (by cases y <;> rfl) (kk p e s m args below meth c A cells slots R Qf C H locs ls hP hS hL)
theorem G_goto {off : Int} {tgt : Nat} (hd : decode μ.2.1 pc = .ok (.goto off, 3)) (ht : (pc : Int) + off = (tgt : Int)) (kk : G l α D cA μ sc d Q tgt L S M) : G l α D cA μ sc d Q pc L S M := by
  intro p e s m args below meth c A cells slots R Qf C H locs ls hP hS hL
  exact lv_goto C.1.1 C.1.2.1 hd ht (kk p e s m args below meth c A cells slots R Qf C H locs ls hP hS hL)
theorem G_ifnull {off : Int} {x : Nat} (hd : decode μ.2.1 pc = .ok (.ifnull off, 3)) (kk : G l α D cA μ sc d Q (pc + 3) L S M) : G l α D cA μ sc d Q pc L (.inr x :: S) M := by
  intro p e s m args below meth c A cells slots R Qf C H locs ls hP hS hL
  exact lv_ifnull C.1.1 C.1.2.1 hd (kk p e s m args below meth c A cells slots R Qf C H locs ls hP hS hL)
theorem G_if_eq {x : Int32} {off : Int} {tgt : Nat} (hd : decode μ.2.1 pc = .ok (.ifCond .eq off, 3)) (ht : (pc : Int) + off = (tgt : Int)) (kt : x = 0 → G l α D cA μ sc d Q tgt L S M) (kf : ¬ x = 0 → G l α D cA μ sc d Q (pc + 3) L S M) : G l α D cA μ sc d Q pc L (.inl x :: S) M := by
  intro p e s m args below meth c A cells slots R Qf C H locs ls hP hS hL
  exact lv_if_eq C.1.1 C.1.2.1 hd ht (fun h => kt h p e s m args below meth c A cells slots R Qf C H locs ls hP hS hL) (fun h => kf h p e s m args below meth c A cells slots R Qf C H locs ls hP hS hL)
theorem G_icmp_eq {x y : Int32} {off : Int} {tgt : Nat} (hd : decode μ.2.1 pc = .ok (.if_icmp .eq off, 3)) (ht : (pc : Int) + off = (tgt : Int)) (kt : x = y → G l α D cA μ sc d Q tgt L S M) (kf : ¬ x = y → G l α D cA μ sc d Q (pc + 3) L S M) : G l α D cA μ sc d Q pc L (.inl y :: .inl x :: S) M := by
  intro p e s m args below meth c A cells slots R Qf C H locs ls hP hS hL
  exact lv_icmp_eq C.1.1 C.1.2.1 hd ht (fun h => kt h p e s m args below meth c A cells slots R Qf C H locs ls hP hS hL) (fun h => kf h p e s m args below meth c A cells slots R Qf C H locs ls hP hS hL)
theorem G_if_ne {x : Int32} {off : Int} {tgt : Nat} (hd : decode μ.2.1 pc = .ok (.ifCond .ne off, 3)) (ht : (pc : Int) + off = (tgt : Int)) (kt : ¬ x = 0 → G l α D cA μ sc d Q tgt L S M) (kf : x = 0 → G l α D cA μ sc d Q (pc + 3) L S M) : G l α D cA μ sc d Q pc L (.inl x :: S) M := by
  intro p e s m args below meth c A cells slots R Qf C H locs ls hP hS hL
  exact lv_if_ne C.1.1 C.1.2.1 hd ht (fun h => kt h p e s m args below meth c A cells slots R Qf C H locs ls hP hS hL) (fun h => kf h p e s m args below meth c A cells slots R Qf C H locs ls hP hS hL)
theorem G_icmp_ne {x y : Int32} {off : Int} {tgt : Nat} (hd : decode μ.2.1 pc = .ok (.if_icmp .ne off, 3)) (ht : (pc : Int) + off = (tgt : Int)) (kt : ¬ x = y → G l α D cA μ sc d Q tgt L S M) (kf : x = y → G l α D cA μ sc d Q (pc + 3) L S M) : G l α D cA μ sc d Q pc L (.inl y :: .inl x :: S) M := by
  intro p e s m args below meth c A cells slots R Qf C H locs ls hP hS hL
  exact lv_icmp_ne C.1.1 C.1.2.1 hd ht (fun h => kt h p e s m args below meth c A cells slots R Qf C H locs ls hP hS hL) (fun h => kf h p e s m args below meth c A cells slots R Qf C H locs ls hP hS hL)
theorem G_if_lt {x : Int32} {off : Int} {tgt : Nat} (hd : decode μ.2.1 pc = .ok (.ifCond .lt off, 3)) (ht : (pc : Int) + off = (tgt : Int)) (kt : x < 0 → G l α D cA μ sc d Q tgt L S M) (kf : ¬ x < 0 → G l α D cA μ sc d Q (pc + 3) L S M) : G l α D cA μ sc d Q pc L (.inl x :: S) M := by
  intro p e s m args below meth c A cells slots R Qf C H locs ls hP hS hL
  exact lv_if_lt C.1.1 C.1.2.1 hd ht (fun h => kt h p e s m args below meth c A cells slots R Qf C H locs ls hP hS hL) (fun h => kf h p e s m args below meth c A cells slots R Qf C H locs ls hP hS hL)
theorem G_icmp_lt {x y : Int32} {off : Int} {tgt : Nat} (hd : decode μ.2.1 pc = .ok (.if_icmp .lt off, 3)) (ht : (pc : Int) + off = (tgt : Int)) (kt : x < y → G l α D cA μ sc d Q tgt L S M) (kf : ¬ x < y → G l α D cA μ sc d Q (pc + 3) L S M) : G l α D cA μ sc d Q pc L (.inl y :: .inl x :: S) M := by
  intro p e s m args below meth c A cells slots R Qf C H locs ls hP hS hL
  exact lv_icmp_lt C.1.1 C.1.2.1 hd ht (fun h => kt h p e s m args below meth c A cells slots R Qf C H locs ls hP hS hL) (fun h => kf h p e s m args below meth c A cells slots R Qf C H locs ls hP hS hL)
theorem G_if_ge {x : Int32} {off : Int} {tgt : Nat} (hd : decode μ.2.1 pc = .ok (.ifCond .ge off, 3)) (ht : (pc : Int) + off = (tgt : Int)) (kt : 0 ≤ x → G l α D cA μ sc d Q tgt L S M) (kf : ¬ 0 ≤ x → G l α D cA μ sc d Q (pc + 3) L S M) : G l α D cA μ sc d Q pc L (.inl x :: S) M := by
  intro p e s m args below meth c A cells slots R Qf C H locs ls hP hS hL
  exact lv_if_ge C.1.1 C.1.2.1 hd ht (fun h => kt h p e s m args below meth c A cells slots R Qf C H locs ls hP hS hL) (fun h => kf h p e s m args below meth c A cells slots R Qf C H locs ls hP hS hL)
theorem G_icmp_ge {x y : Int32} {off : Int} {tgt : Nat} (hd : decode μ.2.1 pc = .ok (.if_icmp .ge off, 3)) (ht : (pc : Int) + off = (tgt : Int)) (kt : y ≤ x → G l α D cA μ sc d Q tgt L S M) (kf : ¬ y ≤ x → G l α D cA μ sc d Q (pc + 3) L S M) : G l α D cA μ sc d Q pc L (.inl y :: .inl x :: S) M := by
  intro p e s m args below meth c A cells slots R Qf C H locs ls hP hS hL
  exact lv_icmp_ge C.1.1 C.1.2.1 hd ht (fun h => kt h p e s m args below meth c A cells slots R Qf C H locs ls hP hS hL) (fun h => kf h p e s m args below meth c A cells slots R Qf C H locs ls hP hS hL)
theorem G_if_gt {x : Int32} {off : Int} {tgt : Nat} (hd : decode μ.2.1 pc = .ok (.ifCond .gt off, 3)) (ht : (pc : Int) + off = (tgt : Int)) (kt : 0 < x → G l α D cA μ sc d Q tgt L S M) (kf : ¬ 0 < x → G l α D cA μ sc d Q (pc + 3) L S M) : G l α D cA μ sc d Q pc L (.inl x :: S) M := by
  intro p e s m args below meth c A cells slots R Qf C H locs ls hP hS hL
  exact lv_if_gt C.1.1 C.1.2.1 hd ht (fun h => kt h p e s m args below meth c A cells slots R Qf C H locs ls hP hS hL) (fun h => kf h p e s m args below meth c A cells slots R Qf C H locs ls hP hS hL)
theorem G_icmp_gt {x y : Int32} {off : Int} {tgt : Nat} (hd : decode μ.2.1 pc = .ok (.if_icmp .gt off, 3)) (ht : (pc : Int) + off = (tgt : Int)) (kt : y < x → G l α D cA μ sc d Q tgt L S M) (kf : ¬ y < x → G l α D cA μ sc d Q (pc + 3) L S M) : G l α D cA μ sc d Q pc L (.inl y :: .inl x :: S) M := by
  intro p e s m args below meth c A cells slots R Qf C H locs ls hP hS hL
  exact lv_icmp_gt C.1.1 C.1.2.1 hd ht (fun h => kt h p e s m args below meth c A cells slots R Qf C H locs ls hP hS hL) (fun h => kf h p e s m args below meth c A cells slots R Qf C H locs ls hP hS hL)
theorem G_if_le {x : Int32} {off : Int} {tgt : Nat} (hd : decode μ.2.1 pc = .ok (.ifCond .le off, 3)) (ht : (pc : Int) + off = (tgt : Int)) (kt : x ≤ 0 → G l α D cA μ sc d Q tgt L S M) (kf : ¬ x ≤ 0 → G l α D cA μ sc d Q (pc + 3) L S M) : G l α D cA μ sc d Q pc L (.inl x :: S) M := by
  intro p e s m args below meth c A cells slots R Qf C H locs ls hP hS hL
  exact lv_if_le C.1.1 C.1.2.1 hd ht (fun h => kt h p e s m args below meth c A cells slots R Qf C H locs ls hP hS hL) (fun h => kf h p e s m args below meth c A cells slots R Qf C H locs ls hP hS hL)
theorem G_icmp_le {x y : Int32} {off : Int} {tgt : Nat} (hd : decode μ.2.1 pc = .ok (.if_icmp .le off, 3)) (ht : (pc : Int) + off = (tgt : Int)) (kt : x ≤ y → G l α D cA μ sc d Q tgt L S M) (kf : ¬ x ≤ y → G l α D cA μ sc d Q (pc + 3) L S M) : G l α D cA μ sc d Q pc L (.inl y :: .inl x :: S) M := by
  intro p e s m args below meth c A cells slots R Qf C H locs ls hP hS hL
  exact lv_icmp_le C.1.1 C.1.2.1 hd ht (fun h => kt h p e s m args below meth c A cells slots R Qf C H locs ls hP hS hL) (fun h => kf h p e s m args below meth c A cells slots R Qf C H locs ls hP hS hL)
theorem Gn_if_eq {a : Nat} {off : Int} {tgt : Nat} (hd : decode μ.2.1 pc = .ok (.ifCond .eq off, 3)) (ht : (pc : Int) + off = (tgt : Int)) (ha : a < 2 ^ 31) (kt : a = 0 → G l α D cA μ sc d Q tgt L S M) (kf : ¬ a = 0 → G l α D cA μ sc d Q (pc + 3) L S M) : G l α D cA μ sc d Q pc L (.inl (nI a) :: S) M := G_if_eq hd ht (fun h => kt ((nI_eq ha (by decide : 0 < 2 ^ 31)).mp h)) (fun h => kf (fun q => h ((nI_eq ha (by decide : 0 < 2 ^ 31)).mpr q)))
theorem Gn_icmp_eq {a b : Nat} {off : Int} {tgt : Nat} (hd : decode μ.2.1 pc = .ok (.if_icmp .eq off, 3)) (ht : (pc : Int) + off = (tgt : Int)) (ha : a < 2 ^ 31) (hb : b < 2 ^ 31) (kt : a = b → G l α D cA μ sc d Q tgt L S M) (kf : ¬ a = b → G l α D cA μ sc d Q (pc + 3) L S M) : G l α D cA μ sc d Q pc L (.inl (nI b) :: .inl (nI a) :: S) M := G_icmp_eq hd ht (fun h => kt ((nI_eq ha hb).mp h)) (fun h => kf (fun q => h ((nI_eq ha hb).mpr q)))
theorem Gn_if_ne {a : Nat} {off : Int} {tgt : Nat} (hd : decode μ.2.1 pc = .ok (.ifCond .ne off, 3)) (ht : (pc : Int) + off = (tgt : Int)) (ha : a < 2 ^ 31) (kt : ¬ a = 0 → G l α D cA μ sc d Q tgt L S M) (kf : a = 0 → G l α D cA μ sc d Q (pc + 3) L S M) : G l α D cA μ sc d Q pc L (.inl (nI a) :: S) M := G_if_ne hd ht (fun h => kt (fun q => h ((nI_eq ha (by decide : 0 < 2 ^ 31)).mpr q))) (fun h => kf ((nI_eq ha (by decide : 0 < 2 ^ 31)).mp h))
theorem Gn_icmp_ne {a b : Nat} {off : Int} {tgt : Nat} (hd : decode μ.2.1 pc = .ok (.if_icmp .ne off, 3)) (ht : (pc : Int) + off = (tgt : Int)) (ha : a < 2 ^ 31) (hb : b < 2 ^ 31) (kt : ¬ a = b → G l α D cA μ sc d Q tgt L S M) (kf : a = b → G l α D cA μ sc d Q (pc + 3) L S M) : G l α D cA μ sc d Q pc L (.inl (nI b) :: .inl (nI a) :: S) M := G_icmp_ne hd ht (fun h => kt (fun q => h ((nI_eq ha hb).mpr q))) (fun h => kf ((nI_eq ha hb).mp h))
theorem Gn_if_lt {a : Nat} {off : Int} {tgt : Nat} (hd : decode μ.2.1 pc = .ok (.ifCond .lt off, 3)) (ht : (pc : Int) + off = (tgt : Int)) (ha : a < 2 ^ 31) (kt : a < 0 → G l α D cA μ sc d Q tgt L S M) (kf : 0 ≤ a → G l α D cA μ sc d Q (pc + 3) L S M) : G l α D cA μ sc d Q pc L (.inl (nI a) :: S) M := G_if_lt hd ht (fun h => kt ((nI_ltI ha (by decide : 0 < 2 ^ 31)).mp h)) (fun h => kf (Nat.le_of_not_lt (fun q => h ((nI_ltI ha (by decide : 0 < 2 ^ 31)).mpr q))))
theorem Gn_icmp_lt {a b : Nat} {off : Int} {tgt : Nat} (hd : decode μ.2.1 pc = .ok (.if_icmp .lt off, 3)) (ht : (pc : Int) + off = (tgt : Int)) (ha : a < 2 ^ 31) (hb : b < 2 ^ 31) (kt : a < b → G l α D cA μ sc d Q tgt L S M) (kf : b ≤ a → G l α D cA μ sc d Q (pc + 3) L S M) : G l α D cA μ sc d Q pc L (.inl (nI b) :: .inl (nI a) :: S) M := G_icmp_lt hd ht (fun h => kt ((nI_ltI ha hb).mp h)) (fun h => kf (Nat.le_of_not_lt (fun q => h ((nI_ltI ha hb).mpr q))))
theorem Gn_if_ge {a : Nat} {off : Int} {tgt : Nat} (hd : decode μ.2.1 pc = .ok (.ifCond .ge off, 3)) (ht : (pc : Int) + off = (tgt : Int)) (ha : a < 2 ^ 31) (kt : 0 ≤ a → G l α D cA μ sc d Q tgt L S M) (kf : a < 0 → G l α D cA μ sc d Q (pc + 3) L S M) : G l α D cA μ sc d Q pc L (.inl (nI a) :: S) M := G_if_ge hd ht (fun h => kt ((nI_leI (by decide : 0 < 2 ^ 31) ha).mp h)) (fun h => kf (Nat.lt_of_not_le (fun q => h ((nI_leI (by decide : 0 < 2 ^ 31) ha).mpr q))))
theorem Gn_icmp_ge {a b : Nat} {off : Int} {tgt : Nat} (hd : decode μ.2.1 pc = .ok (.if_icmp .ge off, 3)) (ht : (pc : Int) + off = (tgt : Int)) (ha : a < 2 ^ 31) (hb : b < 2 ^ 31) (kt : b ≤ a → G l α D cA μ sc d Q tgt L S M) (kf : a < b → G l α D cA μ sc d Q (pc + 3) L S M) : G l α D cA μ sc d Q pc L (.inl (nI b) :: .inl (nI a) :: S) M := G_icmp_ge hd ht (fun h => kt ((nI_leI hb ha).mp h)) (fun h => kf (Nat.lt_of_not_le (fun q => h ((nI_leI hb ha).mpr q))))
theorem Gn_if_gt {a : Nat} {off : Int} {tgt : Nat} (hd : decode μ.2.1 pc = .ok (.ifCond .gt off, 3)) (ht : (pc : Int) + off = (tgt : Int)) (ha : a < 2 ^ 31) (kt : 0 < a → G l α D cA μ sc d Q tgt L S M) (kf : a ≤ 0 → G l α D cA μ sc d Q (pc + 3) L S M) : G l α D cA μ sc d Q pc L (.inl (nI a) :: S) M := G_if_gt hd ht (fun h => kt ((nI_ltI (by decide : 0 < 2 ^ 31) ha).mp h)) (fun h => kf (Nat.le_of_not_lt (fun q => h ((nI_ltI (by decide : 0 < 2 ^ 31) ha).mpr q))))
theorem Gn_icmp_gt {a b : Nat} {off : Int} {tgt : Nat} (hd : decode μ.2.1 pc = .ok (.if_icmp .gt off, 3)) (ht : (pc : Int) + off = (tgt : Int)) (ha : a < 2 ^ 31) (hb : b < 2 ^ 31) (kt : b < a → G l α D cA μ sc d Q tgt L S M) (kf : a ≤ b → G l α D cA μ sc d Q (pc + 3) L S M) : G l α D cA μ sc d Q pc L (.inl (nI b) :: .inl (nI a) :: S) M := G_icmp_gt hd ht (fun h => kt ((nI_ltI hb ha).mp h)) (fun h => kf (Nat.le_of_not_lt (fun q => h ((nI_ltI hb ha).mpr q))))
theorem Gn_if_le {a : Nat} {off : Int} {tgt : Nat} (hd : decode μ.2.1 pc = .ok (.ifCond .le off, 3)) (ht : (pc : Int) + off = (tgt : Int)) (ha : a < 2 ^ 31) (kt : a ≤ 0 → G l α D cA μ sc d Q tgt L S M) (kf : 0 < a → G l α D cA μ sc d Q (pc + 3) L S M) : G l α D cA μ sc d Q pc L (.inl (nI a) :: S) M := G_if_le hd ht (fun h => kt ((nI_leI ha (by decide : 0 < 2 ^ 31)).mp h)) (fun h => kf (Nat.lt_of_not_le (fun q => h ((nI_leI ha (by decide : 0 < 2 ^ 31)).mpr q))))
theorem Gn_icmp_le {a b : Nat} {off : Int} {tgt : Nat} (hd : decode μ.2.1 pc = .ok (.if_icmp .le off, 3)) (ht : (pc : Int) + off = (tgt : Int)) (ha : a < 2 ^ 31) (hb : b < 2 ^ 31) (kt : a ≤ b → G l α D cA μ sc d Q tgt L S M) (kf : b < a → G l α D cA μ sc d Q (pc + 3) L S M) : G l α D cA μ sc d Q pc L (.inl (nI b) :: .inl (nI a) :: S) M := G_icmp_le hd ht (fun h => kt ((nI_leI ha hb).mp h)) (fun h => kf (Nat.lt_of_not_le (fun q => h ((nI_leI ha hb).mpr q))))
def bI (b : Bool) : Int32 := if b then 1 else 0
theorem bI_0 {b : Bool} : bI b = 0 ↔ b = false := by cases b <;> decide
theorem bI_nar {b : Bool} : narrow .boolean (.int (bI b)) = .int (bI b) := by cases b <;> rfl
theorem Gb_if_eq {b : Bool} {off : Int} {tgt : Nat} (hd : decode μ.2.1 pc = .ok (.ifCond .eq off, 3)) (ht : (pc : Int) + off = (tgt : Int)) (kt : b = false → G l α D cA μ sc d Q tgt L S M) (kf : b = true → G l α D cA μ sc d Q (pc + 3) L S M) : G l α D cA μ sc d Q pc L (.inl (bI b) :: S) M := G_if_eq hd ht (fun h => kt (bI_0.mp h)) (fun h => kf (by cases b; exact absurd rfl h; rfl))
theorem Gb_if_ne {b : Bool} {off : Int} {tgt : Nat} (hd : decode μ.2.1 pc = .ok (.ifCond .ne off, 3)) (ht : (pc : Int) + off = (tgt : Int)) (kt : b = true → G l α D cA μ sc d Q tgt L S M) (kf : b = false → G l α D cA μ sc d Q (pc + 3) L S M) : G l α D cA μ sc d Q pc L (.inl (bI b) :: S) M := G_if_ne hd ht (fun h => kt (by cases b; exact absurd rfl h; rfl)) (fun h => kf (bI_0.mp h))
theorem G_getI {idx ci k o : Nat} {v : Int32} {fs : List (Option Nat)} (hd : decode μ.2.1 pc = .ok (.getfield idx, 3)) (hf : FL μ.1.cls idx ci k) (hs : SHL[o]? = some (.inl (ci, fs))) (hk : fs[k]? = some none) (hv : M o k = v) (kk : G l α D cA μ sc d Q (pc + 3) L (.inl v :: S) M) : G l α D cA μ sc d Q pc L (.inr o :: S) M := by
  subst hv
  intro p e s m args below meth c A cells slots R Qf C H locs ls hP hS hL
  obtain ⟨T, N, h1, h2, h3, h4, h5⟩ := hf
  exact va_get (q0 := o) (k := k) (v := .int (M o k)) (hexec := C.1.1) (hb := C.1.2.1) (hts := C.1.2.2.2.2) (hin := h3) (hown := C.1.2.2.2.1) (hK := C.2.1) (hP := hP) (he := wd_at hs) (hc := h1) (hk := h2) (hlink := C.1.2.2.2.2 _ h5) (hsame := fun x hx => by rw [h4] at hx; exact hx) (hv := by simp [List.getElem?_mapIdx, hk, fv]) (hdg := hd) (kk p e s m args below meth c A cells slots R Qf C H locs ls hP hS hL)
theorem G_getR {idx ci k o j : Nat} {fs : List (Option Nat)} (hd : decode μ.2.1 pc = .ok (.getfield idx, 3)) (hf : FL μ.1.cls idx ci k) (hs : SHL[o]? = some (.inl (ci, fs))) (hk : fs[k]? = some (some j)) (kk : G l α D cA μ sc d Q (pc + 3) L (.inr j :: S) M) : G l α D cA μ sc d Q pc L (.inr o :: S) M := by
  intro p e s m args below meth c A cells slots R Qf C H locs ls hP hS hL
  obtain ⟨T, N, h1, h2, h3, h4, h5⟩ := hf
  exact va_get (q0 := o) (k := k) (v := .ref (α j)) (hexec := C.1.1) (hb := C.1.2.1) (hts := C.1.2.2.2.2) (hin := h3) (hown := C.1.2.2.2.1) (hK := C.2.1) (hP := hP) (he := wd_at hs) (hc := h1) (hk := h2) (hlink := C.1.2.2.2.2 _ h5) (hsame := fun x hx => by rw [h4] at hx; exact hx) (hv := by simp [List.getElem?_mapIdx, hk, fv]) (hdg := hd) (kk p e s m args below meth c A cells slots R Qf C H locs ls hP hS hL)
theorem G_put {idx ci k o : Nat} {x : Int32} {fs : List (Option Nat)} (hd : decode μ.2.1 pc = .ok (.putfield idx, 3)) (hf : FP μ.1.cls idx ci k) (hs : SHL[o]? = some (.inl (ci, fs))) (hk : fs[k]? = some none) (kk : G l α D cA μ sc d Q (pc + 3) L S (ms M o k x)) : G l α D cA μ sc d Q pc L (.inl x :: .inr o :: S) M := by
  intro p e0 s m args below meth c A cells slots R Qf C H locs ls hP hS hL
  obtain ⟨T, N, ty, h1, h2, h3, h4, h5, h6, h7, h8, h9⟩ := hf
  have hlen : k < fs.length := (List.getElem?_eq_some_iff.mp hk).1
  have e : (wd α cA M).set o (α o, .inr (ci, (fs.mapIdx (fun k r => fv α (M o) k r)).set k (.int x))) = wd α cA (ms M o k x) := by
    rw [fv_set hk]
    have h0 := wd_set (α := α) (cA := cA) (M := M) (M' := ms M o k x) hs (fun q hq => ms_q hq)
    rw [ms_o] at h0
    exact h0
  refine va_put (q0 := o) (k := k) (v := .int x) (ty := .int) (fs := fs.mapIdx (fun k r => fv α (M o) k r)) (hexec := C.1.1) (hb := C.1.2.1) (hts := C.1.2.2.2.2) (hin := h3) (ty0 := ty) (hty := h6) (hnm := h7) (hown := C.1.2.2.2.1) (hK := C.2.1) (hP := hP) (hD := wd_D C.2.2.1 C.2.2.2.1) (hS0 := hS) (he := wd_at hs) (hc := h1) (hk := h2) (hlink := C.1.2.2.2.2 _ h5) (hsame := fun x hx => by rw [h4] at hx; exact hx) (hfin := h8) (hd := h9) (hn := rfl) (hfit := rfl) (hl := by simpa using hlen) (hdg := hd) (fun H1 locs1 hP1 hD1 hS1 => ?_)
  rw [e] at hP1
  exact kk p e0 s m args below meth c A cells slots R Qf C H1 locs1 ls hP1 hS1 hL
theorem G_iald {o n k : Nat} {i v : Int32} (hd : decode μ.2.1 pc = .ok (.iaload, 1)) (hs : SHL[o]? = some (.inr (.inl (0, n)))) (hin : vp_in i n) (hk : i.toNatClampNeg = k) (hv : M o k = v) (kk : G l α D cA μ sc d Q (pc + 1) L (.inl v :: S) M) : G l α D cA μ sc d Q pc L (.inl i :: .inr o :: S) M := by
  subst hk
  subst hv
  intro p e s m args below meth c A cells slots R Qf C H locs ls hP hS hL
  exact va_iald C.1.1 C.1.2.1 C.2.1 hP o 0 (wd_at hs) rfl hin hd (kk p e s m args below meth c A cells slots R Qf C H locs ls hP hS hL)
theorem G_zald {o n k : Nat} {i v : Int32} (hd : decode μ.2.1 pc = .ok (.baload, 1)) (hs : SHL[o]? = some (.inr (.inl (1, n)))) (hin : vp_in i n) (hk : i.toNatClampNeg = k) (hv : M o k = v) (kk : G l α D cA μ sc d Q (pc + 1) L (.inl v :: S) M) : G l α D cA μ sc d Q pc L (.inl i :: .inr o :: S) M := by
  subst hk
  subst hv
  intro p e s m args below meth c A cells slots R Qf C H locs ls hP hS hL
  exact va_zald C.1.1 C.1.2.1 C.2.1 hP o 1 (wd_at hs) rfl hin hd (kk p e s m args below meth c A cells slots R Qf C H locs ls hP hS hL)
theorem G_cald {o n k : Nat} {i v : Int32} (hd : decode μ.2.1 pc = .ok (.caload, 1)) (hs : SHL[o]? = some (.inr (.inl (2, n)))) (hin : vp_in i n) (hk : i.toNatClampNeg = k) (hv : M o k = v) (kk : G l α D cA μ sc d Q (pc + 1) L (.inl v :: S) M) : G l α D cA μ sc d Q pc L (.inl i :: .inr o :: S) M := by
  subst hk
  subst hv
  intro p e s m args below meth c A cells slots R Qf C H locs ls hP hS hL
  exact va_cald C.1.1 C.1.2.1 C.2.1 hP o 2 (wd_at hs) rfl hin hd (kk p e s m args below meth c A cells slots R Qf C H locs ls hP hS hL)
theorem G_bald {o n k : Nat} {i v : Int32} (hd : decode μ.2.1 pc = .ok (.baload, 1)) (hs : SHL[o]? = some (.inr (.inl (3, n)))) (hin : vp_in i n) (hk : i.toNatClampNeg = k) (hv : M o k = v) (kk : G l α D cA μ sc d Q (pc + 1) L (.inl v :: S) M) : G l α D cA μ sc d Q pc L (.inl i :: .inr o :: S) M := by
  subst hk
  subst hv
  intro p e s m args below meth c A cells slots R Qf C H locs ls hP hS hL
  exact va_bald C.1.1 C.1.2.1 C.2.1 hP o 3 (wd_at hs) rfl hin hd (kk p e s m args below meth c A cells slots R Qf C H locs ls hP hS hL)
theorem G_iast {o n k : Nat} {i x v : Int32} (hd : decode μ.2.1 pc = .ok (.iastore, 1)) (hs : SHL[o]? = some (.inr (.inl (0, n)))) (hin : vp_in i n) (hk : i.toNatClampNeg = k) (hv : x = v) (kk : G l α D cA μ sc d Q (pc + 1) L S (ms M o k v)) : G l α D cA μ sc d Q pc L (.inl x :: .inl i :: .inr o :: S) M := by
  subst hk
  subst hv
  intro p e s m args below meth c A cells slots R Qf C H locs ls hP hS hL
  exact va_iast C.1.1 C.1.2.1 C.2.1 hP (wd_D C.2.2.1 C.2.2.2.1) hS o 0 (wd_at hs) rfl hin hd (fun H1 locs1 hP1 hD1 hS1 => kk p e s m args below meth c A cells slots R Qf C H1 locs1 ls (by rw [← wd_set hs (fun q hq => ms_q hq)]; simp only [ms_o]; exact hP1) hS1 hL)
theorem G_zast {o n k : Nat} {i x v : Int32} (hd : decode μ.2.1 pc = .ok (.bastore, 1)) (hs : SHL[o]? = some (.inr (.inl (1, n)))) (hin : vp_in i n) (hk : i.toNatClampNeg = k) (hv : (vp_nar .boolean x) = v) (kk : G l α D cA μ sc d Q (pc + 1) L S (ms M o k v)) : G l α D cA μ sc d Q pc L (.inl x :: .inl i :: .inr o :: S) M := by
  subst hk
  subst hv
  intro p e s m args below meth c A cells slots R Qf C H locs ls hP hS hL
  exact va_zast C.1.1 C.1.2.1 C.2.1 hP (wd_D C.2.2.1 C.2.2.2.1) hS o 1 (wd_at hs) rfl hin hd (fun H1 locs1 hP1 hD1 hS1 => kk p e s m args below meth c A cells slots R Qf C H1 locs1 ls (by rw [← wd_set hs (fun q hq => ms_q hq)]; simp only [ms_o]; exact hP1) hS1 hL)
theorem G_cast {o n k : Nat} {i x v : Int32} (hd : decode μ.2.1 pc = .ok (.castore, 1)) (hs : SHL[o]? = some (.inr (.inl (2, n)))) (hin : vp_in i n) (hk : i.toNatClampNeg = k) (hv : (vp_nar .char x) = v) (kk : G l α D cA μ sc d Q (pc + 1) L S (ms M o k v)) : G l α D cA μ sc d Q pc L (.inl x :: .inl i :: .inr o :: S) M := by
  subst hk
  subst hv
  intro p e s m args below meth c A cells slots R Qf C H locs ls hP hS hL
  exact va_cast C.1.1 C.1.2.1 C.2.1 hP (wd_D C.2.2.1 C.2.2.2.1) hS o 2 (wd_at hs) rfl hin hd (fun H1 locs1 hP1 hD1 hS1 => kk p e s m args below meth c A cells slots R Qf C H1 locs1 ls (by rw [← wd_set hs (fun q hq => ms_q hq)]; simp only [ms_o]; exact hP1) hS1 hL)
theorem G_bast {o n k : Nat} {i x v : Int32} (hd : decode μ.2.1 pc = .ok (.bastore, 1)) (hs : SHL[o]? = some (.inr (.inl (3, n)))) (hin : vp_in i n) (hk : i.toNatClampNeg = k) (hv : (vp_nar .byte x) = v) (kk : G l α D cA μ sc d Q (pc + 1) L S (ms M o k v)) : G l α D cA μ sc d Q pc L (.inl x :: .inl i :: .inr o :: S) M := by
  subst hk
  subst hv
  intro p e s m args below meth c A cells slots R Qf C H locs ls hP hS hL
  exact va_bast C.1.1 C.1.2.1 C.2.1 hP (wd_D C.2.2.1 C.2.2.2.1) hS o 3 (wd_at hs) rfl hin hd (fun H1 locs1 hP1 hD1 hS1 => kk p e s m args below meth c A cells slots R Qf C H1 locs1 ls (by rw [← wd_set hs (fun q hq => ms_q hq)]; simp only [ms_o]; exact hP1) hS1 hL)
theorem G_aald {o j : Nat} {i : Int32} {js : List Nat} (hd : decode μ.2.1 pc = .ok (.aaload, 1)) (hs : SHL[o]? = some (.inr (.inr js))) (hin : vp_in i js.length) (hj : js[i.toNatClampNeg]? = some j) (kk : G l α D cA μ sc d Q (pc + 1) L (.inr j :: S) M) : G l α D cA μ sc d Q pc L (.inl i :: .inr o :: S) M := by
  intro p e s m args below meth c A cells slots R Qf C H locs ls hP hS hL
  have hlt : i.toNatClampNeg < js.length := (List.getElem?_eq_some_iff.mp hj).1
  exact W.aald (v := .ref (α j)) (ty := .array .int) C.1.1 C.1.2.1 (hP o _ (wd_at hs)) ((C.2.1.2 4 _ rfl).1 js.length (fun q => va_rf ((js[q]?).map α))) rfl (fun q => by cases q) (by show ¬ (i < 0 ∨ (arrV _ _ _).slots.size ≤ _); rw [arrV_size]; exact hin) (by show (arrV _ _ _).slots[_]? = _; rw [arrV_read _ _ hlt]; show some (va_rf ((js[i.toNatClampNeg]?).map α)) = _; rw [hj]; rfl) rfl rfl hd (kk p e s m args below meth c A cells slots R Qf C H locs ls hP hS hL)
theorem G_alen {o t n : Nat} {v : Int32} (hd : decode μ.2.1 pc = .ok (.arraylength, 1)) (hs : SHL[o]? = some (.inr (.inl (t, n)))) (ht : t < 4) (hv : Int32.ofNat n = v) (kk : G l α D cA μ sc d Q (pc + 1) L (.inl v :: S) M) : G l α D cA μ sc d Q pc L (.inr o :: S) M := by
  intro p e s m args below meth c A cells slots R Qf C H locs ls hP hS hL
  have h : t = 0 ∨ t = 1 ∨ t = 2 ∨ t = 3 := by omega
  rcases h with rfl | rfl | rfl | rfl
  · exact va_alen C.1.1 C.1.2.1 C.2.1 hP o 0 (wd_at hs) (ty := .int) rfl hv hd (kk p e s m args below meth c A cells slots R Qf C H locs ls hP hS hL)
  · exact va_alen C.1.1 C.1.2.1 C.2.1 hP o 1 (wd_at hs) (ty := .boolean) rfl hv hd (kk p e s m args below meth c A cells slots R Qf C H locs ls hP hS hL)
  · exact va_alen C.1.1 C.1.2.1 C.2.1 hP o 2 (wd_at hs) (ty := .char) rfl hv hd (kk p e s m args below meth c A cells slots R Qf C H locs ls hP hS hL)
  · exact va_alen C.1.1 C.1.2.1 C.2.1 hP o 3 (wd_at hs) (ty := .byte) rfl hv hd (kk p e s m args below meth c A cells slots R Qf C H locs ls hP hS hL)
theorem G_sld {i v : Int32} {n k : Nat} {xs : Nat → Int32} (hd : decode μ.2.1 pc = .ok (.iaload, 1)) (hsc : sc = some (n, xs)) (hin : vp_in i n) (hk : i.toNatClampNeg = k) (hv : xs k = v) (kk : G l α D cA μ sc d Q (pc + 1) L (.inl v :: S) M) : G l α D cA μ sc d Q pc L (.inl i :: .inr 999 :: S) M := by
  subst hk
  subst hv
  intro p e s m args below meth c A cells slots R Qf C H locs ls hP hS hL
  obtain ⟨h1, h2, h3⟩ := C.2.2.2.2.2.2.2.1 n xs hsc
  exact va_sld C.1.1 C.1.2.1 h1 h2 h3 hS hin hd (kk p e s m args below meth c A cells slots R Qf C H locs ls hP hS hL)
theorem G_slen {n : Nat} {v : Int32} {xs : Nat → Int32} (hd : decode μ.2.1 pc = .ok (.arraylength, 1)) (hsc : sc = some (n, xs)) (hv : Int32.ofNat n = v) (kk : G l α D cA μ sc d Q (pc + 1) L (.inl v :: S) M) : G l α D cA μ sc d Q pc L (.inr 999 :: S) M := by
  subst hv
  intro p e s m args below meth c A cells slots R Qf C H locs ls hP hS hL
  obtain ⟨h1, h2, h3⟩ := C.2.2.2.2.2.2.2.1 n xs hsc
  exact va_slen C.1.1 C.1.2.1 h1 h2 h3 hS hd (kk p e s m args below meth c A cells slots R Qf C H locs ls hP hS hL)
theorem G_iret {v : Int32} {ty : FieldType} (hd : decode μ.2.1 pc = .ok (.ireturn, 1)) (hr : μ.2.2.2.1 = some ty) (hn : narrow ty (.int v) = .int v) (hq : Q (.inl v) M) : G l α D cA μ sc d Q pc L [.inl v] M := by
  intro p e s m args below meth c A cells slots R Qf C H locs ls hP hS hL
  have h := C.2.2.2.2.2.2.2.2 (.inl v) M H locs pc ls hq (by rw [hr]; exact Or.inl ⟨hd, v, rfl, hn⟩) hP hS
  rw [hr] at h
  exact h
theorem G_aret {j : Nat} {ty : FieldType} (hd : decode μ.2.1 pc = .ok (.areturn, 1)) (hr : μ.2.2.2.1 = some ty) (hn : (∃ n, ty = .object n) ∨ ∃ t, ty = .array t) (hq : Q (.inr j) M) : G l α D cA μ sc d Q pc L [.inr j] M := by
  intro p e s m args below meth c A cells slots R Qf C H locs ls hP hS hL
  have h := C.2.2.2.2.2.2.2.2 (.inr j) M H locs pc ls hq (by rw [hr]; exact Or.inr ⟨hd, hn, j, rfl⟩) hP hS
  rw [hr] at h
  exact h
theorem G_vret (hd : decode μ.2.1 pc = .ok (.return_, 1)) (hr : μ.2.2.2.1 = none) (hq : Q (.inl 0) M) : G l α D cA μ sc d Q pc L [] M := by
  intro p e s m args below meth c A cells slots R Qf C H locs ls hP hS hL
  have h := C.2.2.2.2.2.2.2.2 (.inl 0) M H locs pc ls hq (by rw [hr]; exact hd) hP hS
  rw [hr] at h
  exact h
theorem G_swOut {dflt lo hi : Int} {offs : Array Int} {len : Nat} {x : Int32} {tgt : Nat} (hd : decode μ.2.1 pc = .ok (.tableswitch dflt lo hi offs, len)) (h : x.toInt < lo ∨ hi < x.toInt) (ht : (pc : Int) + dflt = (tgt : Int)) (kk : G l α D cA μ sc d Q tgt L S M) : G l α D cA μ sc d Q pc L (.inl x :: S) M := by
  intro p e s m args below meth c A cells slots R Qf C H locs ls hP hS hL
  exact lv_tableOut C.1.1 C.1.2.1 hd h ht (kk p e s m args below meth c A cells slots R Qf C H locs ls hP hS hL)
theorem G_swIn {dflt lo hi : Int} {offs : Array Int} {len : Nat} {x : Int32} {off : Int} {tgt : Nat} (hd : decode μ.2.1 pc = .ok (.tableswitch dflt lo hi offs, len)) (h1 : ¬ x.toInt < lo) (h2 : ¬ hi < x.toInt) (ho : offs[(x.toInt - lo).toNat]? = some off) (ht : (pc : Int) + off = (tgt : Int)) (kk : G l α D cA μ sc d Q tgt L S M) : G l α D cA μ sc d Q pc L (.inl x :: S) M := by
  intro p e s m args below meth c A cells slots R Qf C H locs ls hP hS hL
  exact lv_tableIn C.1.1 C.1.2.1 hd h1 h2 ho ht (kk p e s m args below meth c A cells slots R Qf C H locs ls hP hS hL)
set_option maxHeartbeats 1000000 in
theorem G_callV {As st : List AV} {o ci idx : Nat} {fs : List (Option Nat)} {T : u_T} {N : Nat} {Q' : AV → Mem → Prop} (hd : decode μ.2.1 pc = .ok (.invokevirtual idx, 3)) (hl : LK μ.1.cls idx ν.1) (hv : MV ν) (hs : SHL[o]? = some (.inl (ci, fs))) (hc : vwCl[ci]? = some (ν.1.cls, T, N)) (hn : As.length = ν.2.2.2.2) (hst : st = As.reverse ++ .inr o :: S) (hSl : S.length ≤ 8) (hk : Call l α D cA ν d (.inr o :: As) M Q')
    (kk : ∀ (r : AV) (M' : Mem), Q' r M' → G l α D cA μ sc (d + 1) Q (pc + 3) L (outs ν.2.2.2.1 r ++ S) M') : G l α D cA μ sc (d + 1) Q pc L st M := by
  subst hst
  intro p e s m args below meth c A cells slots R Qf C H locs ls hP hS hL
  obtain ⟨⟨hx, hb, hml, hown, hts⟩, hK, hi, hA1, hA2, hF, ⟨r1, r2, r3, r4⟩, hsc, hfin⟩ := id C
  have hFA : ∀ q, AA α H.size q → A q := fun q h => by
    rcases h with ⟨i, h1, rfl⟩ | h
    · exact hA1 i h1
    · exact hA2 q (Nat.le_trans hS.1 h)
  have hcat : ∀ S : List AV, ((S.map (cv α)).map fun v => v.category).sum = S.length := fun S => by
    induction S with
    | nil => rfl
    | cons a S ih =>
      have hc : (cv α a).category = 1 := by cases a <;> rfl
      simp only [List.map_cons, List.sum_cons, hc, ih, List.length_cons]
      omega
  have run : va_Run p l e R s m args below meth c H locs cells slots 0 0 (F0 m pc ls ((As.reverse ++ .inr o :: S).map (cv α))) (S.map (cv α)) (QcM α D cA ν.2.2.2.1 Q' (AA α H.size) ((.inr o :: As).map (cv α)).toArray) (AA α H.size) := by
    have hpre : ∀ U : State, U.heap = H → s.WarmedH U.vm → PcM α D cA (.inr o :: As) M H.size ((.inr o :: As).map (cv α)).toArray U := fun U hU hW => ⟨rfl, by rw [hU], by rw [hU]; exact hP, va_K.moved hW.alike hK, by rw [hU]; exact ((hF.kept hS.2.1).narrow hFA).warm hW, hi⟩
    have hblind : FrameBlind (PcM α D cA (.inr o :: As) M H.size) := fun a U g mk q => by
      obtain ⟨q1, q2, q3, q4, q5, q6⟩ := q
      exact ⟨q1, q2, q3, va_K.moved (u := U) (U := U.calling g mk a) (Vm.Alike.refl U.vm) q4, SF.same (s := U) (U := U.calling g mk a) rfl q5, q6⟩
    have hrec := va_recv C.2.1 hP hc (wd_at hs)
    have hR : (rmD d).frames + 1 ≤ R.frames ∧ 8 + (ν.2.2.1 + 11) + (rmD d).locals ≤ R.locals := ⟨r1, by have := hv.1.2.2.2.2; show 8 + (ν.2.2.1 + 11) + 36 * d ≤ R.locals; omega⟩
    have hstk : (F0 m pc ls ((As.reverse ++ .inr o :: S).map (cv α))).stack = (As.map (cv α)).reverse ++ .ref (α o) :: S.map (cv α) := by simp [cv]
    rcases hl with hl | ⟨host, hl⟩
    · exact va_runV (As := As.map (cv α)) (rest := S.map (cv α)) (b := α o) (C := ν.1.cls) (index := idx) ⟨hx, hb, hml, hown, hts⟩ (hk H.size) ⟨callB_of ν.2.2.2.2 hts (goodIn_wsM hv.1) rfl rfl rfl (hts _ hv.1.2.1) (hts _ hl) hv.1.2.2.1 hR, hts _ hv.2.1, hts _ hv.2.2⟩ ⟨hblind, hrec, hpre⟩ rfl (by simpa using hn) hL.1 hstk (by rw [hcat]; show 2 * 0 + _ ≤ 8; omega) hd ⟨r3, r4⟩
    · exact va_runVN (As := As.map (cv α)) (rest := S.map (cv α)) (b := α o) (C := ν.1.cls) (index := idx) (host := host) ⟨hx, hb, hml, hown, hts⟩ (hk H.size) ⟨va_cnB ν.2.2.2.2 hts (goodIn_wsM hv.1) rfl rfl rfl (hF.2.2.2.2 _ _ _ _ hl) (hts _ hv.1.2.1) hv.1.2.2.1 hR, hts _ hv.2.1, hts _ hv.2.2⟩ ⟨hblind, hrec, hpre⟩ rfl (by simpa using hn) hL.1 hstk (by rw [hcat]; show 2 * 0 + _ ≤ 8; omega) hd ⟨r3, r4⟩
  intro T hT X
  obtain ⟨v, st₀, t, T', L', h0, X', hLL, e1, e2, ⟨⟨r, M', hv0, hq, hP'⟩, hz, hkeep⟩, stp⟩ := run T hT X
  cases hv0
  rw [h0] at hz hkeep
  have hS' : va_S A s.heap T'.heap (locs ++ L') := ⟨Nat.le_trans hS.1 (by rw [e1]; exact hz), fun q h1 h2 => by rw [e1, hkeep q (Nat.lt_of_lt_of_le h1 hS.1) (fun z => h2 (hFA q z))]; exact hS.2.1 q h1 h2, fun q hq => by
    rcases List.mem_append.mp hq with h | h
    · exact hS.2.2 q h
    · exact hFA _ (hLL q h)⟩
  obtain ⟨t2, a1, b1⟩ := kk r M' hq p e s m args below meth c A cells slots R Qf C T'.heap (locs ++ L') ls (by rw [e1]; exact hP') hS' hL T' rfl X'
  refine ⟨t2, stp t2 ?_, b1⟩
  rw [List.map_append, outs_map] at a1
  exact a1
set_option maxHeartbeats 1000000 in
theorem G_callS {As st : List AV} {idx : Nat} {Q' : AV → Mem → Prop} (hd : decode μ.2.1 pc = .ok (.invokestatic idx, 3)) (hl : LK μ.1.cls idx ν.1) (hv : MS ν) (hn : As.length = ν.2.2.2.2) (hst : st = As.reverse ++ S) (hSl : S.length ≤ 8) (hk : Call l α D cA ν d As M Q')
    (kk : ∀ (r : AV) (M' : Mem), Q' r M' → G l α D cA μ sc (d + 1) Q (pc + 3) L (outs ν.2.2.2.1 r ++ S) M') : G l α D cA μ sc (d + 1) Q pc L st M := by
  subst hst
  intro p e s m args below meth c A cells slots R Qf C H locs ls hP hS hL
  obtain ⟨⟨hx, hb, hml, hown, hts⟩, hK, hi, hA1, hA2, hF, ⟨r1, r2, r3, r4⟩, hsc, hfin⟩ := id C
  have hFA : ∀ q, AA α H.size q → A q := fun q h => by
    rcases h with ⟨i, h1, rfl⟩ | h
    · exact hA1 i h1
    · exact hA2 q (Nat.le_trans hS.1 h)
  have hcat : ∀ S : List AV, ((S.map (cv α)).map fun v => v.category).sum = S.length := fun S => by
    induction S with
    | nil => rfl
    | cons a S ih =>
      have hc : (cv α a).category = 1 := by cases a <;> rfl
      simp only [List.map_cons, List.sum_cons, hc, ih, List.length_cons]
      omega
  have run : va_Run p l e R s m args below meth c H locs cells slots 0 0 (F0 m pc ls ((As.reverse ++ S).map (cv α))) (S.map (cv α)) (QcM α D cA ν.2.2.2.1 Q' (AA α H.size) (As.map (cv α)).toArray) (AA α H.size) := by
    have hpre : ∀ U : State, U.heap = H → s.WarmedH U.vm → PcM α D cA As M H.size ((As).map (cv α)).toArray U := fun U hU hW => ⟨rfl, by rw [hU], by rw [hU]; exact hP, va_K.moved hW.alike hK, by rw [hU]; exact ((hF.kept hS.2.1).narrow hFA).warm hW, hi⟩
    have hblind : FrameBlind (PcM α D cA As M H.size) := fun a U g mk q => by
      obtain ⟨q1, q2, q3, q4, q5, q6⟩ := q
      exact ⟨q1, q2, q3, va_K.moved (u := U) (U := U.calling g mk a) (Vm.Alike.refl U.vm) q4, SF.same (s := U) (U := U.calling g mk a) rfl q5, q6⟩
    have hR : (rmD d).frames + 1 ≤ R.frames ∧ 8 + (ν.2.2.1 + 11) + (rmD d).locals ≤ R.locals := ⟨r1, by have := hv.1.2.2.2.2; show 8 + (ν.2.2.1 + 11) + 36 * d ≤ R.locals; omega⟩
    have hstk : (F0 m pc ls ((As.reverse ++ S).map (cv α))).stack = (As.map (cv α)).reverse ++ S.map (cv α) := by simp
    rcases hl with hl | ⟨host, hl⟩
    · exact va_runS (As := As.map (cv α)) (rest := S.map (cv α)) (index := idx) ⟨hx, hb, hml, hown, hts⟩ (hk H.size) ⟨callB_of ν.2.2.2.2 hts (goodIn_wsM hv.1) rfl rfl rfl (hts _ hv.1.2.1) (hts _ hl) hv.1.2.2.1 hR, hts _ hv.2⟩ ⟨hblind, hpre⟩ rfl (by simpa using hn) hL.1 hstk (by rw [hcat]; show 2 * 0 + _ ≤ 8; omega) hd ⟨r3, r4⟩
    · exact va_runSN (As := As.map (cv α)) (rest := S.map (cv α)) (index := idx) (host := host) ⟨hx, hb, hml, hown, hts⟩ (hk H.size) ⟨va_cnB ν.2.2.2.2 hts (goodIn_wsM hv.1) rfl rfl rfl (hF.2.2.2.2 _ _ _ _ hl) (hts _ hv.1.2.1) hv.1.2.2.1 hR, hts _ hv.2, trivial⟩ ⟨hblind, hpre⟩ rfl (by simpa using hn) hL.1 hstk (by rw [hcat]; show 2 * 0 + _ ≤ 8; omega) hd ⟨r3, r4⟩
  intro T hT X
  obtain ⟨v, st₀, t, T', L', h0, X', hLL, e1, e2, ⟨⟨r, M', hv0, hq, hP'⟩, hz, hkeep⟩, stp⟩ := run T hT X
  cases hv0
  rw [h0] at hz hkeep
  have hS' : va_S A s.heap T'.heap (locs ++ L') := ⟨Nat.le_trans hS.1 (by rw [e1]; exact hz), fun q h1 h2 => by rw [e1, hkeep q (Nat.lt_of_lt_of_le h1 hS.1) (fun z => h2 (hFA q z))]; exact hS.2.1 q h1 h2, fun q hq => by
    rcases List.mem_append.mp hq with h | h
    · exact hS.2.2 q h
    · exact hFA _ (hLL q h)⟩
  obtain ⟨t2, a1, b1⟩ := kk r M' hq p e s m args below meth c A cells slots R Qf C T'.heap (locs ++ L') ls (by rw [e1]; exact hP') hS' hL T' rfl X'
  refine ⟨t2, stp t2 ?_, b1⟩
  rw [List.map_append, outs_map] at a1
  exact a1
theorem G_callVi {As st : List AV} {o ci idx : Nat} {fs : List (Option Nat)} {T : u_T} {N : Nat} {ty : FieldType} {Q2 : AV → Mem → Prop} (hd : decode μ.2.1 pc = .ok (.invokevirtual idx, 3)) (hl : LK μ.1.cls idx ν.1) (hv : MV ν) (hs : SHL[o]? = some (.inl (ci, fs))) (hc : vwCl[ci]? = some (ν.1.cls, T, N)) (hr : ν.2.2.2.1 = some ty) (hn : As.length = ν.2.2.2.2) (hst : st = As.reverse ++ .inr o :: S) (hSl : S.length ≤ 8) (hk : Call l α D cA ν d (.inr o :: As) M Q2) (kk : ∀ (r : AV) (M1 : Mem), Q2 r M1 → G l α D cA μ sc (d + 1) Q (pc + 3) L (r :: S) M1) : G l α D cA μ sc (d + 1) Q pc L st M := G_callV hd hl hv hs hc hn hst hSl hk (fun r M1 h => by rw [hr]; exact kk r M1 h)
theorem G_callVv {As st : List AV} {o ci idx : Nat} {fs : List (Option Nat)} {T : u_T} {N : Nat} {Q2 : AV → Mem → Prop} (hd : decode μ.2.1 pc = .ok (.invokevirtual idx, 3)) (hl : LK μ.1.cls idx ν.1) (hv : MV ν) (hs : SHL[o]? = some (.inl (ci, fs))) (hc : vwCl[ci]? = some (ν.1.cls, T, N)) (hr : ν.2.2.2.1 = none) (hn : As.length = ν.2.2.2.2) (hst : st = As.reverse ++ .inr o :: S) (hSl : S.length ≤ 8) (hk : Call l α D cA ν d (.inr o :: As) M Q2) (kk : ∀ (r : AV) (M1 : Mem), Q2 r M1 → G l α D cA μ sc (d + 1) Q (pc + 3) L S M1) : G l α D cA μ sc (d + 1) Q pc L st M := G_callV hd hl hv hs hc hn hst hSl hk (fun r M1 h => by rw [hr]; exact kk r M1 h)
theorem G_callSi {As st : List AV} {idx : Nat} {ty : FieldType} {Q2 : AV → Mem → Prop} (hd : decode μ.2.1 pc = .ok (.invokestatic idx, 3)) (hl : LK μ.1.cls idx ν.1) (hv : MS ν) (hr : ν.2.2.2.1 = some ty) (hn : As.length = ν.2.2.2.2) (hst : st = As.reverse ++ S) (hSl : S.length ≤ 8) (hk : Call l α D cA ν d As M Q2) (kk : ∀ (r : AV) (M1 : Mem), Q2 r M1 → G l α D cA μ sc (d + 1) Q (pc + 3) L (r :: S) M1) : G l α D cA μ sc (d + 1) Q pc L st M := G_callS hd hl hv hn hst hSl hk (fun r M1 h => by rw [hr]; exact kk r M1 h)
theorem G_callSv {As st : List AV} {idx : Nat} {Q2 : AV → Mem → Prop} (hd : decode μ.2.1 pc = .ok (.invokestatic idx, 3)) (hl : LK μ.1.cls idx ν.1) (hv : MS ν) (hr : ν.2.2.2.1 = none) (hn : As.length = ν.2.2.2.2) (hst : st = As.reverse ++ S) (hSl : S.length ≤ 8) (hk : Call l α D cA ν d As M Q2) (kk : ∀ (r : AV) (M1 : Mem), Q2 r M1 → G l α D cA μ sc (d + 1) Q (pc + 3) L S M1) : G l α D cA μ sc (d + 1) Q pc L st M := G_callS hd hl hv hn hst hSl hk (fun r M1 h => by rw [hr]; exact kk r M1 h)
end GR
