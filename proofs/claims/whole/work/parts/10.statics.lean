/-! The static helpers of SewnFields, and Arrays.fill -/
section P10
variable {l : Launch} {α : Nat → Nat} {D : va_G} {cA : Nat → ClassId}
theorem ms_idem {M : Mem} {o : Nat} {f : Nat → Int32} {k : Nat} {v : Int32} : ms (mo M o f) o k v = mo M o (upd f k v) := by
  funext q
  by_cases h : q = o
  · subst h
    simp [ms, mo]
  · simp [ms, mo, h]
theorem mo_self {M : Mem} {o : Nat} : mo M o (M o) = M := by
  funext q
  by_cases h : q = o
  · subst h
    simp [mo]
  · simp [mo, h]
theorem ms_mo {M : Mem} {o k : Nat} {v : Int32} : ms M o k v = mo M o (upd (M o) k v) := rfl
theorem mo_mo {M : Mem} {o : Nat} {f g : Nat → Int32} : mo (mo M o f) o g = mo M o g := by
  funext q
  by_cases h : q = o
  · subst h
    simp [mo]
  · simp [mo, h]
theorem bI_t {b : Bool} (h : b = true) : nI 1 = bI b := by subst h; rfl
theorem bI_f {b : Bool} (h : b = false) : nI 0 = bI b := by subst h; rfl
theorem inr_nI {a b c : Nat} (h1 : a ≤ b) (h2 : b ≤ c) (h3 : c < 2 ^ 31) : decide (nI a ≤ nI b ∧ nI b ≤ nI c) = true := decide_eq_true ⟨nI_le h1 (by omega), nI_le h2 h3⟩
theorem nofalse {b : Bool} (h : b = true) : ¬ b = false := by rw [h]; decide
theorem notrue {b : Bool} (h : b = false) : ¬ b = true := by rw [h]; decide
theorem upd_k {f : Nat → Int32} {k : Nat} {x : Int32} : upd f k x k = x := by simp [upd]
theorem upd_n {f : Nat → Int32} {k j : Nat} {x : Int32} (h : j ≠ k) : upd f k x j = f j := by simp [upd, h]
theorem c_within {d : Nat} {a b c : Int32} {M : Mem} : Call l α D cA uX9_within d [.inl a, .inl b, .inl c] M (fun r M1 => r = .inl (bI (decide (b ≤ a ∧ a ≤ c))) ∧ M1 = M) := by
  refine Call.of kX9_within.1 (Nat.le_of_ble_eq_true rfl) ?_
  refine G_iload_n dX9_within_0 rfl rfl ?_
  refine G_iload_n dX9_within_1 rfl rfl ?_
  refine G_icmp_lt (tgt := 14) dX9_within_2 (by decide) (fun h2 => ?_) (fun h2 => ?_)
  · refine G_iconst (v := (nI 0)) dX9_within_14 (by decide) ?_
    refine G_iret dX9_within_15 rfl (by decide) ?_
    exact ⟨congrArg Sum.inl (bI_f (decide_eq_false (by grind))), rfl⟩
  · refine G_iload_n dX9_within_5 rfl rfl ?_
    refine G_iload_n dX9_within_6 rfl rfl ?_
    refine G_icmp_gt (tgt := 14) dX9_within_7 (by decide) (fun h7 => ?_) (fun h7 => ?_)
    · refine G_iconst (v := (nI 0)) dX9_within_14 (by decide) ?_
      refine G_iret dX9_within_15 rfl (by decide) ?_
      exact ⟨congrArg Sum.inl (bI_f (decide_eq_false (by grind))), rfl⟩
    · refine G_iconst (v := (nI 1)) dX9_within_10 (by decide) ?_
      refine G_goto (tgt := 15) dX9_within_11 (by decide) ?_
      refine G_iret dX9_within_15 rfl (by decide) ?_
      exact ⟨congrArg Sum.inl (bI_t (decide_eq_true (by grind))), rfl⟩
theorem c_at {d o n i : Nat} {M : Mem} (ho : SHL[o]? = some (.inr (.inl (0, n)))) (hn : n < 2 ^ 31) (hi : i < n) : Call l α D cA uX9_at d [.inr o, .inl (nI i)] M (fun r M1 => r = .inl (M o i) ∧ M1 = M) := by
  refine Call.of kX9_at.1 (Nat.le_of_ble_eq_true rfl) ?_
  refine G_iload_n dX9_at_0 rfl rfl ?_
  refine Gn_if_lt (tgt := 16) dX9_at_1 (by decide) (by omega) (fun h1 => ?_) (fun h1 => ?_)
  · omega
  · refine G_iload_n dX9_at_4 rfl rfl ?_
    refine G_aload_n dX9_at_5 rfl rfl ?_
    refine G_alen (v := (nI n)) dX9_at_6 ho (by decide) rfl ?_
    refine Gn_icmp_ge (tgt := 16) dX9_at_7 (by decide) (by omega) (by omega) (fun h7 => ?_) (fun h7 => ?_)
    · omega
    · refine G_aload_n dX9_at_10 rfl rfl ?_
      refine G_iload_n dX9_at_11 rfl rfl ?_
      refine G_iald (k := i) (v := (M o i)) dX9_at_12 ho (vp_in_nI (by omega) (by omega)) (nI_clamp (by omega)) rfl ?_
      refine G_goto (tgt := 18) dX9_at_13 (by decide) ?_
      refine G_iret dX9_at_18 rfl rfl ?_
      exact ⟨rfl, rfl⟩
theorem c_at_none {d o n : Nat} {M : Mem} : Call l α D cA uX9_at d [.inr o, .inl (-9)] M (fun r M1 => r = .inl (-9) ∧ M1 = M) := by
  refine Call.of kX9_at.1 (Nat.le_of_ble_eq_true rfl) ?_
  refine G_iload_n dX9_at_0 rfl rfl ?_
  refine G_if_lt (tgt := 16) dX9_at_1 (by decide) (fun h1 => ?_) (fun h1 => ?_)
  · refine G_bipush (v := ((-9))) dX9_at_16 (by decide) ?_
    refine G_iret dX9_at_18 rfl rfl ?_
    exact ⟨rfl, rfl⟩
  · exact absurd (by decide) h1
theorem c_put {d o n i : Nat} {x : Int32} {M : Mem} (ho : SHL[o]? = some (.inr (.inl (0, n)))) (hn : n < 2 ^ 31) (hi : i < n) : Call l α D cA uX9_put d [.inr o, .inl (nI i), .inl x] M (fun _ M1 => M1 = mo M o (upd (M o) i x)) := by
  refine Call.of kX9_put.1 (Nat.le_of_ble_eq_true rfl) ?_
  refine G_iload_n dX9_put_0 rfl rfl ?_
  refine Gn_if_lt (tgt := 14) dX9_put_1 (by decide) (by omega) (fun h1 => ?_) (fun h1 => ?_)
  · omega
  · refine G_iload_n dX9_put_4 rfl rfl ?_
    refine G_aload_n dX9_put_5 rfl rfl ?_
    refine G_alen (v := (nI n)) dX9_put_6 ho (by decide) rfl ?_
    refine Gn_icmp_ge (tgt := 14) dX9_put_7 (by decide) (by omega) (by omega) (fun h7 => ?_) (fun h7 => ?_)
    · omega
    · refine G_aload_n dX9_put_10 rfl rfl ?_
      refine G_iload_n dX9_put_11 rfl rfl ?_
      refine G_iload_n dX9_put_12 rfl rfl ?_
      refine G_iast (k := i) (v := x) dX9_put_13 ho (vp_in_nI (by omega) (by omega)) (nI_clamp (by omega)) rfl ?_
      refine G_vret dX9_put_14 rfl ?_
      exact rfl
theorem c_placeOf {d x y : Nat} {M : Mem} (hx : x < 8) (hy : y < 6) : Call l α D cA uX9_placeOf (d + 1) [.inl (nI x), .inl (nI y)] M (fun r M1 => r = .inl (nI (8 * y + x)) ∧ M1 = M) := by
  refine Call.of kX9_placeOf.1 (Nat.le_of_ble_eq_true rfl) ?_
  refine G_iload_n dX9_placeOf_0 rfl rfl ?_
  refine G_iconst (v := (nI 0)) dX9_placeOf_1 (by decide) ?_
  refine G_bipush (v := (nI 7)) dX9_placeOf_2 (by decide) ?_
  refine G_callSi (ν := uX9_within) (As := [.inl (nI x), .inl (nI 0), .inl (nI 7)]) dX9_placeOf_4 nX9_74 kX9_within rfl rfl rfl (Nat.le_of_ble_eq_true rfl) (c_within) ?_
  rintro _ _ ⟨rfl, rfl⟩
  refine Gb_if_eq (tgt := 28) dX9_placeOf_7 (by decide) (fun h7 => ?_) (fun h7 => ?_)
  · exact absurd h7 (nofalse (inr_nI (by omega) (by omega) (by omega)))
  · refine G_iload_n dX9_placeOf_10 rfl rfl ?_
    refine G_iconst (v := (nI 0)) dX9_placeOf_11 (by decide) ?_
    refine G_iconst (v := (nI 5)) dX9_placeOf_12 (by decide) ?_
    refine G_callSi (ν := uX9_within) (As := [.inl (nI y), .inl (nI 0), .inl (nI 5)]) dX9_placeOf_13 nX9_74 kX9_within rfl rfl rfl (Nat.le_of_ble_eq_true rfl) (c_within) ?_
    rintro _ _ ⟨rfl, rfl⟩
    refine Gb_if_eq (tgt := 28) dX9_placeOf_16 (by decide) (fun h16 => ?_) (fun h16 => ?_)
    · exact absurd h16 (nofalse (inr_nI (by omega) (by omega) (by omega)))
    · refine G_bipush (v := (nI 8)) dX9_placeOf_19 (by decide) ?_
      refine G_iload_n dX9_placeOf_21 rfl rfl ?_
      refine G_imul (v := (nI (8 * y))) dX9_placeOf_22 (pk_mul _ _) ?_
      refine G_iload_n dX9_placeOf_23 rfl rfl ?_
      refine G_iadd (v := (nI ((8 * y) + x))) dX9_placeOf_24 (nI_add _ _) ?_
      refine G_goto (tgt := 30) dX9_placeOf_25 (by decide) ?_
      refine G_iret dX9_placeOf_30 rfl rfl ?_
      exact ⟨rfl, rfl⟩
/-- the place at a side of a place of the grid of 8 columns and 6 rows -/
def nbr (p s : Nat) : Option Nat := match s with
  | 0 => if 8 ≤ p then some (p - 8) else none
  | 1 => if 0 < p % 8 then some (p - 1) else none
  | 2 => if p % 8 < 7 then some (p + 1) else none
  | 3 => if p < 40 then some (p + 8) else none
  | _ => none
def oI (r : Option Nat) : Int32 := match r with
  | none => -9
  | some n => nI n
theorem nbr_lt {p s q : Nat} (hp : p < 48) (h : nbr p s = some q) : q < 48 := by
  unfold nbr at h
  split at h <;> first | (split at h <;> simp at h <;> omega) | (cases h)
theorem c_beside_0 {d p : Nat} {M : Mem} (hp : p < 48) : Call l α D cA uX9_beside d [.inl (nI p), .inl (nI 0)] M (fun r M1 => r = .inl (oI (nbr p 0)) ∧ M1 = M) := by
  refine Call.of kX9_beside.1 (Nat.le_of_ble_eq_true rfl) ?_
  refine G_iload_n dX9_beside_0 rfl rfl ?_
  refine Gn_if_lt (tgt := 10) dX9_beside_1 (by decide) (by omega) (fun h1 => ?_) (fun h1 => ?_)
  · omega
  · refine G_iload_n dX9_beside_4 rfl rfl ?_
    refine G_bipush (v := (nI 48)) dX9_beside_5 (by decide) ?_
    refine Gn_icmp_lt (tgt := 13) dX9_beside_7 (by decide) (by omega) (by omega) (fun h7 => ?_) (fun h7 => ?_)
    · refine G_iload_n dX9_beside_13 rfl rfl ?_
      refine G_swIn (tgt := 44) dX9_beside_14 (by decide) (by decide) rfl (by decide) ?_
      refine G_iload_n dX9_beside_44 rfl rfl ?_
      refine G_bipush (v := (nI 8)) dX9_beside_45 (by decide) ?_
      refine Gn_icmp_lt (tgt := 57) dX9_beside_47 (by decide) (by omega) (by omega) (fun h47 => ?_) (fun h47 => ?_)
      · refine G_bipush (v := ((-9))) dX9_beside_57 (by decide) ?_
        refine G_iret dX9_beside_59 rfl rfl ?_
        exact ⟨congrArg Sum.inl (by rw [nbr]; rw [if_neg (by omega)]; rfl), rfl⟩
      · refine G_iload_n dX9_beside_50 rfl rfl ?_
        refine G_bipush (v := (nI 8)) dX9_beside_51 (by decide) ?_
        refine G_isub (v := (nI (p - 8))) dX9_beside_53 (pk_sub (by omega)) ?_
        refine G_goto (tgt := 59) dX9_beside_54 (by decide) ?_
        refine G_iret dX9_beside_59 rfl rfl ?_
        exact ⟨congrArg Sum.inl (by rw [nbr]; rw [if_pos (by omega)]; rfl), rfl⟩
    · refine G_bipush (v := ((-9))) dX9_beside_10 (by decide) ?_
      refine G_iret dX9_beside_12 rfl rfl ?_
      exact ⟨congrArg Sum.inl (by rw [nbr]; rw [if_neg (by omega)]; rfl), rfl⟩
theorem c_beside_1 {d p : Nat} {M : Mem} (hp : p < 48) : Call l α D cA uX9_beside d [.inl (nI p), .inl (nI 1)] M (fun r M1 => r = .inl (oI (nbr p 1)) ∧ M1 = M) := by
  refine Call.of kX9_beside.1 (Nat.le_of_ble_eq_true rfl) ?_
  refine G_iload_n dX9_beside_0 rfl rfl ?_
  refine Gn_if_lt (tgt := 10) dX9_beside_1 (by decide) (by omega) (fun h1 => ?_) (fun h1 => ?_)
  · omega
  · refine G_iload_n dX9_beside_4 rfl rfl ?_
    refine G_bipush (v := (nI 48)) dX9_beside_5 (by decide) ?_
    refine Gn_icmp_lt (tgt := 13) dX9_beside_7 (by decide) (by omega) (by omega) (fun h7 => ?_) (fun h7 => ?_)
    · refine G_iload_n dX9_beside_13 rfl rfl ?_
      refine G_swIn (tgt := 60) dX9_beside_14 (by decide) (by decide) rfl (by decide) ?_
      refine G_iload_n dX9_beside_60 rfl rfl ?_
      refine G_bipush (v := (nI 8)) dX9_beside_61 (by decide) ?_
      refine G_irem (v := (nI (p % 8))) dX9_beside_63 (nI_ne0 (by omega) (by omega)) (pk_rem (by omega) (by omega) (by omega)) ?_
      refine Gn_if_le (tgt := 73) dX9_beside_64 (by decide) (by omega) (fun h64 => ?_) (fun h64 => ?_)
      · refine G_bipush (v := ((-9))) dX9_beside_73 (by decide) ?_
        refine G_iret dX9_beside_75 rfl rfl ?_
        exact ⟨congrArg Sum.inl (by rw [nbr]; rw [if_neg (by omega)]; rfl), rfl⟩
      · refine G_iload_n dX9_beside_67 rfl rfl ?_
        refine G_iconst (v := (nI 1)) dX9_beside_68 (by decide) ?_
        refine G_isub (v := (nI (p - 1))) dX9_beside_69 (pk_sub (by omega)) ?_
        refine G_goto (tgt := 75) dX9_beside_70 (by decide) ?_
        refine G_iret dX9_beside_75 rfl rfl ?_
        exact ⟨congrArg Sum.inl (by rw [nbr]; rw [if_pos (by omega)]; rfl), rfl⟩
    · refine G_bipush (v := ((-9))) dX9_beside_10 (by decide) ?_
      refine G_iret dX9_beside_12 rfl rfl ?_
      exact ⟨congrArg Sum.inl (by rw [nbr]; rw [if_neg (by omega)]; rfl), rfl⟩
theorem c_beside_2 {d p : Nat} {M : Mem} (hp : p < 48) : Call l α D cA uX9_beside d [.inl (nI p), .inl (nI 2)] M (fun r M1 => r = .inl (oI (nbr p 2)) ∧ M1 = M) := by
  refine Call.of kX9_beside.1 (Nat.le_of_ble_eq_true rfl) ?_
  refine G_iload_n dX9_beside_0 rfl rfl ?_
  refine Gn_if_lt (tgt := 10) dX9_beside_1 (by decide) (by omega) (fun h1 => ?_) (fun h1 => ?_)
  · omega
  · refine G_iload_n dX9_beside_4 rfl rfl ?_
    refine G_bipush (v := (nI 48)) dX9_beside_5 (by decide) ?_
    refine Gn_icmp_lt (tgt := 13) dX9_beside_7 (by decide) (by omega) (by omega) (fun h7 => ?_) (fun h7 => ?_)
    · refine G_iload_n dX9_beside_13 rfl rfl ?_
      refine G_swIn (tgt := 76) dX9_beside_14 (by decide) (by decide) rfl (by decide) ?_
      refine G_iload_n dX9_beside_76 rfl rfl ?_
      refine G_bipush (v := (nI 8)) dX9_beside_77 (by decide) ?_
      refine G_irem (v := (nI (p % 8))) dX9_beside_79 (nI_ne0 (by omega) (by omega)) (pk_rem (by omega) (by omega) (by omega)) ?_
      refine G_bipush (v := (nI 7)) dX9_beside_80 (by decide) ?_
      refine Gn_icmp_ge (tgt := 91) dX9_beside_82 (by decide) (by omega) (by omega) (fun h82 => ?_) (fun h82 => ?_)
      · refine G_bipush (v := ((-9))) dX9_beside_91 (by decide) ?_
        refine G_iret dX9_beside_93 rfl rfl ?_
        exact ⟨congrArg Sum.inl (by rw [nbr]; rw [if_neg (by omega)]; rfl), rfl⟩
      · refine G_iload_n dX9_beside_85 rfl rfl ?_
        refine G_iconst (v := (nI 1)) dX9_beside_86 (by decide) ?_
        refine G_iadd (v := (nI (p + 1))) dX9_beside_87 (nI_add _ _) ?_
        refine G_goto (tgt := 93) dX9_beside_88 (by decide) ?_
        refine G_iret dX9_beside_93 rfl rfl ?_
        exact ⟨congrArg Sum.inl (by rw [nbr]; rw [if_pos (by omega)]; rfl), rfl⟩
    · refine G_bipush (v := ((-9))) dX9_beside_10 (by decide) ?_
      refine G_iret dX9_beside_12 rfl rfl ?_
      exact ⟨congrArg Sum.inl (by rw [nbr]; rw [if_neg (by omega)]; rfl), rfl⟩
theorem c_beside_3 {d p : Nat} {M : Mem} (hp : p < 48) : Call l α D cA uX9_beside d [.inl (nI p), .inl (nI 3)] M (fun r M1 => r = .inl (oI (nbr p 3)) ∧ M1 = M) := by
  refine Call.of kX9_beside.1 (Nat.le_of_ble_eq_true rfl) ?_
  refine G_iload_n dX9_beside_0 rfl rfl ?_
  refine Gn_if_lt (tgt := 10) dX9_beside_1 (by decide) (by omega) (fun h1 => ?_) (fun h1 => ?_)
  · omega
  · refine G_iload_n dX9_beside_4 rfl rfl ?_
    refine G_bipush (v := (nI 48)) dX9_beside_5 (by decide) ?_
    refine Gn_icmp_lt (tgt := 13) dX9_beside_7 (by decide) (by omega) (by omega) (fun h7 => ?_) (fun h7 => ?_)
    · refine G_iload_n dX9_beside_13 rfl rfl ?_
      refine G_swIn (tgt := 94) dX9_beside_14 (by decide) (by decide) rfl (by decide) ?_
      refine G_iload_n dX9_beside_94 rfl rfl ?_
      refine G_bipush (v := (nI 40)) dX9_beside_95 (by decide) ?_
      refine Gn_icmp_ge (tgt := 107) dX9_beside_97 (by decide) (by omega) (by omega) (fun h97 => ?_) (fun h97 => ?_)
      · refine G_bipush (v := ((-9))) dX9_beside_107 (by decide) ?_
        refine G_iret dX9_beside_109 rfl rfl ?_
        exact ⟨congrArg Sum.inl (by rw [nbr]; rw [if_neg (by omega)]; rfl), rfl⟩
      · refine G_iload_n dX9_beside_100 rfl rfl ?_
        refine G_bipush (v := (nI 8)) dX9_beside_101 (by decide) ?_
        refine G_iadd (v := (nI (p + 8))) dX9_beside_103 (nI_add _ _) ?_
        refine G_goto (tgt := 109) dX9_beside_104 (by decide) ?_
        refine G_iret dX9_beside_109 rfl rfl ?_
        exact ⟨congrArg Sum.inl (by rw [nbr]; rw [if_pos (by omega)]; rfl), rfl⟩
    · refine G_bipush (v := ((-9))) dX9_beside_10 (by decide) ?_
      refine G_iret dX9_beside_12 rfl rfl ?_
      exact ⟨congrArg Sum.inl (by rw [nbr]; rw [if_neg (by omega)]; rfl), rfl⟩
theorem c_beside {d p s : Nat} {M : Mem} (hp : p < 48) (hs : s < 4) : Call l α D cA uX9_beside d [.inl (nI p), .inl (nI s)] M (fun r M1 => r = .inl (oI (nbr p s)) ∧ M1 = M) := by
  have h : s = 0 ∨ s = 1 ∨ s = 2 ∨ s = 3 := by omega
  rcases h with rfl | rfl | rfl | rfl
  · exact c_beside_0 hp
  · exact c_beside_1 hp
  · exact c_beside_2 hp
  · exact c_beside_3 hp
end P10
