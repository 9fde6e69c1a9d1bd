/-! THE MACHINE LAYER, part d: the library's members that the code calls -/
section GL
variable {l : Launch} {α : Nat → Nat} {D : va_G} {cA : Nat → ClassId} {μ ν : MI} {sc : Option (Nat × (Nat → Int32))} {d : Nat} {Q : AV → Mem → Prop} {pc : Nat} {L : List (Option AV)} {S : List AV} {M : Mem}
theorem cv_sum {α : Nat → Nat} : ∀ S : List AV, ((S.map (cv α)).map fun v => v.category).sum = S.length
  | [] => rfl
  | a :: S => by
    have hc : (cv α a).category = 1 := by cases a <;> rfl
    have ih := cv_sum (α := α) S
    simp only [List.map_cons, List.sum_cons, hc, ih, List.length_cons]
    omega
theorem G_min {idx : Nat} {x y v : Int32} (hd : decode μ.2.1 pc = .ok (.invokestatic idx, 3)) (hl : Cond.methodLink μ.1.cls idx yJ9_min_7cf53 ∈ TG) (hSl : S.length ≤ 8) (hv : (if y < x then y else x) = v) (kk : G l α D cA μ sc (d + 1) Q (pc + 3) L (.inl v :: S) M) : G l α D cA μ sc (d + 1) Q pc L (.inl y :: .inl x :: S) M := by
  subst hv
  intro p e s m args below meth c A cells slots R Qf C H locs ls hP hS hL
  have r := C.2.2.2.2.2.2.1
  exact va_mmin C.1.1 C.1.2.1 (by rw [C.1.2.2.1, hL.1]) C.1.2.2.2.1 (C.1.2.2.2.2 _ hl) (C.1.2.2.2.2 _ kJ9_min_7cf53.2.2) (C.1.2.2.2.2 _ kJ9_min_7cf53.2.1) (C.1.2.2.2.2 _ kJ9_min_7cf53.1) (by omega) (by rw [cv_sum]; omega) r.2.2.1 r.2.2.2 hd (kk p e s m args below meth c A cells slots R Qf C H locs ls hP hS hL)
theorem G_max {idx : Nat} {x y v : Int32} (hd : decode μ.2.1 pc = .ok (.invokestatic idx, 3)) (hl : Cond.methodLink μ.1.cls idx yJ9_max_7cf53 ∈ TG) (hSl : S.length ≤ 8) (hv : (if x < y then y else x) = v) (kk : G l α D cA μ sc (d + 1) Q (pc + 3) L (.inl v :: S) M) : G l α D cA μ sc (d + 1) Q pc L (.inl y :: .inl x :: S) M := by
  subst hv
  intro p e s m args below meth c A cells slots R Qf C H locs ls hP hS hL
  have r := C.2.2.2.2.2.2.1
  exact va_mmax C.1.1 C.1.2.1 (by rw [C.1.2.2.1, hL.1]) C.1.2.2.2.1 (C.1.2.2.2.2 _ hl) (C.1.2.2.2.2 _ kJ9_max_7cf53.2.2) (C.1.2.2.2.2 _ kJ9_max_7cf53.2.1) (C.1.2.2.2.2 _ kJ9_max_7cf53.1) (by omega) (by rw [cv_sum]; omega) r.2.2.1 r.2.2.2 hd (kk p e s m args below meth c A cells slots R Qf C H locs ls hP hS hL)
/-- the memory with all ints of o put anew -/
def mo (M : Mem) (o : Nat) (f : Nat → Int32) : Mem := fun q => if q = o then f else M q
theorem mo_o {M : Mem} {o : Nat} {f : Nat → Int32} : mo M o f o = f := by simp [mo]
theorem mo_q {M : Mem} {o q : Nat} {f : Nat → Int32} (h : q ≠ o) : mo M o f q = M q := by simp [mo, h]
/-- System.arraycopy(a, 0, b, 0, n) between arrays of ints, apart or not -/
theorem G_copy {idx o1 o2 n1 n2 N : Nat} (hd : decode μ.2.1 pc = .ok (.invokestatic idx, 3)) (hl : Cond.methodLink μ.1.cls idx arraycopyName ∈ TG) (hSl : S.length ≤ 8) (h1 : SHL[o1]? = some (.inr (.inl (0, n1)))) (h2 : SHL[o2]? = some (.inr (.inl (0, n2)))) (hN : N < 2 ^ 31) (hn1 : N ≤ n1) (hn2 : N ≤ n2) (kk : G l α D cA μ sc (d + 1) Q (pc + 3) L S (mo M o2 (va_cpy (M o1) (M o2) 0 0 N))) : G l α D cA μ sc (d + 1) Q pc L (.inl (nI N) :: .inl 0 :: .inr o2 :: .inl 0 :: .inr o1 :: S) M := by
  intro p e s m args below meth c A cells slots R Qf C H locs ls hP hS hL
  have r := C.2.2.2.2.2.2.1
  have z0 : (0 : Int32).toNatClampNeg = 0 := by decide
  have hnw : nativeFrameWords "java/lang/System" "arraycopy" 5 = 7 := by decide +kernel
  refine va_copyi (ty := .int) (sp := 0) (dp := 0) (n := nI N) (q0 := o1) (q1 := o2) (t0 := 0) (t1 := 0) C.1.1 C.1.2.1 (by rw [C.1.2.2.1, hL.1]) C.1.2.2.2.1 (C.1.2.2.2.2 _ hl) (C.1.2.2.2.2 _ q_acN) (C.1.2.2.2.2 _ q_acS) (C.1.2.2.2.2 _ q_acI) C.2.1 hP (wd_D C.2.2.1 C.2.2.2.1) hS (wd_at h1) (wd_at h2) rfl rfl rfl (by decide) (by decide) (nI_pos hN) (by rw [z0, nI_clamp hN]; omega) (by rw [z0, nI_clamp hN]; omega) (fun _ _ => rfl) (by omega) (by rw [cv_sum, hnw]; omega) hd (fun H1 locs1 hP1 hD1 hS1 => ?_)
  rw [z0, nI_clamp hN] at hP1
  have e0 := wd_set (α := α) (cA := cA) (M := M) (M' := mo M o2 (va_cpy (M o1) (M o2) 0 0 N)) h2 (fun q hq => mo_q hq)
  rw [mo_o] at e0
  exact kk p e s m args below meth c A cells slots R Qf C H1 locs1 ls (e0 ▸ hP1) hS1 hL
end GL
