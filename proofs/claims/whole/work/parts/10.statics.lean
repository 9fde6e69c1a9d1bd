/-! The static helpers of SewnFields, and Arrays.fill -/
section P10
variable {l : Launch} {α : Nat → Nat} {D : va_G} {cA : Nat → ClassId}
theorem ms_idem {M : Mem} {o : Nat} {f : Nat → Int32} {k : Nat} {v : Int32} : ms (mo M o f) o k v = mo M o (upd f k v) := by
  funext q
  by_cases h : q = o
  · subst h
    simp [ms, mo]
  · simp [ms, mo, h]
theorem mo_self {M : Mem} {o : Nat} : mo M o (M o) = M := by
  funext q
  by_cases h : q = o
  · subst h
    simp [mo]
  · simp [mo, h]
theorem ms_mo {M : Mem} {o k : Nat} {v : Int32} : ms M o k v = mo M o (upd (M o) k v) := rfl
theorem mo_mo {M : Mem} {o : Nat} {f g : Nat → Int32} : mo (mo M o f) o g = mo M o g := by
  funext q
  by_cases h : q = o
  · subst h
    simp [mo]
  · simp [mo, h]
theorem bI_t {b : Bool} (h : b = true) : nI 1 = bI b := by subst h; rfl
theorem bI_f {b : Bool} (h : b = false) : nI 0 = bI b := by subst h; rfl
theorem inr_nI {a b c : Nat} (h1 : a ≤ b) (h2 : b ≤ c) (h3 : c < 2 ^ 31) : decide (nI a ≤ nI b ∧ nI b ≤ nI c) = true := decide_eq_true ⟨nI_le h1 (by omega), nI_le h2 h3⟩
theorem nofalse {b : Bool} (h : b = true) : ¬ b = false := by rw [h]; decide
theorem notrue {b : Bool} (h : b = false) : ¬ b = true := by rw [h]; decide
theorem upd_k {f : Nat → Int32} {k : Nat} {x : Int32} : upd f k x k = x := by simp [upd]
theorem upd_n {f : Nat → Int32} {k j : Nat} {x : Int32} (h : j ≠ k) : upd f k x j = f j := by simp [upd, h]
theorem c_within {d : Nat} {a b c : Int32} {M : Mem} : Call l α D cA uX9_within d [.inl a, .inl b, .inl c] M (fun r M1 => r = .inl (bI (decide (b ≤ a ∧ a ≤ c))) ∧ M1 = M) := by
  refine Call.of kX9_within.1 (Nat.le_of_ble_eq_true rfl) ?_
  refine G_iload_n dX9_within_0 rfl rfl ?_
  refine G_iload_n dX9_within_1 rfl rfl ?_
  refine G_icmp_lt (tgt := 14) dX9_within_2 (by decide) (fun h2 => ?_) (fun h2 => ?_)
  · refine G_iconst (v := (nI 0)) dX9_within_14 (by decide) ?_
    refine G_iret dX9_within_15 rfl (by decide) ?_
    exact ⟨congrArg Sum.inl (bI_f (decide_eq_false (by grind))), rfl⟩
  · refine G_iload_n dX9_within_5 rfl rfl ?_
    refine G_iload_n dX9_within_6 rfl rfl ?_
    refine G_icmp_gt (tgt := 14) dX9_within_7 (by decide) (fun h7 => ?_) (fun h7 => ?_)
    · refine G_iconst (v := (nI 0)) dX9_within_14 (by decide) ?_
      refine G_iret dX9_within_15 rfl (by decide) ?_
      exact ⟨congrArg Sum.inl (bI_f (decide_eq_false (by grind))), rfl⟩
    · refine G_iconst (v := (nI 1)) dX9_within_10 (by decide) ?_
      refine G_goto (tgt := 15) dX9_within_11 (by decide) ?_
      refine G_iret dX9_within_15 rfl (by decide) ?_
      exact ⟨congrArg Sum.inl (bI_t (decide_eq_true (by grind))), rfl⟩
theorem c_at {d o n i : Nat} {M : Mem} (ho : SHL[o]? = some (.inr (.inl (0, n)))) (hn : n < 2 ^ 31) (hi : i < n) : Call l α D cA uX9_at d [.inr o, .inl (nI i)] M (fun r M1 => r = .inl (M o i) ∧ M1 = M) := by
  refine Call.of kX9_at.1 (Nat.le_of_ble_eq_true rfl) ?_
  refine G_iload_n dX9_at_0 rfl rfl ?_
  refine Gn_if_lt (tgt := 16) dX9_at_1 (by decide) (by omega) (fun h1 => ?_) (fun h1 => ?_)
  · omega
  · refine G_iload_n dX9_at_4 rfl rfl ?_
    refine G_aload_n dX9_at_5 rfl rfl ?_
    refine G_alen (v := (nI n)) dX9_at_6 ho (by decide) rfl ?_
    refine Gn_icmp_ge (tgt := 16) dX9_at_7 (by decide) (by omega) (by omega) (fun h7 => ?_) (fun h7 => ?_)
    · omega
    · refine G_aload_n dX9_at_10 rfl rfl ?_
      refine G_iload_n dX9_at_11 rfl rfl ?_
      refine G_iald (k := i) (v := (M o i)) dX9_at_12 ho (vp_in_nI (by omega) (by omega)) (nI_clamp (by omega)) rfl ?_
      refine G_goto (tgt := 18) dX9_at_13 (by decide) ?_
      refine G_iret dX9_at_18 rfl rfl ?_
      exact ⟨rfl, rfl⟩
theorem c_at_none {d o : Nat} {M : Mem} : Call l α D cA uX9_at d [.inr o, .inl (-9)] M (fun r M1 => r = .inl (-9) ∧ M1 = M) := by
  refine Call.of kX9_at.1 (Nat.le_of_ble_eq_true rfl) ?_
  refine G_iload_n dX9_at_0 rfl rfl ?_
  refine G_if_lt (tgt := 16) dX9_at_1 (by decide) (fun h1 => ?_) (fun h1 => ?_)
  · refine G_bipush (v := ((-9))) dX9_at_16 (by decide) ?_
    refine G_iret dX9_at_18 rfl rfl ?_
    exact ⟨rfl, rfl⟩
  · exact absurd (by decide) h1
theorem c_put {d o n i : Nat} {x : Int32} {M : Mem} (ho : SHL[o]? = some (.inr (.inl (0, n)))) (hn : n < 2 ^ 31) (hi : i < n) : Call l α D cA uX9_put d [.inr o, .inl (nI i), .inl x] M (fun _ M1 => M1 = mo M o (upd (M o) i x)) := by
  refine Call.of kX9_put.1 (Nat.le_of_ble_eq_true rfl) ?_
  refine G_iload_n dX9_put_0 rfl rfl ?_
  refine Gn_if_lt (tgt := 14) dX9_put_1 (by decide) (by omega) (fun h1 => ?_) (fun h1 => ?_)
  · omega
  · refine G_iload_n dX9_put_4 rfl rfl ?_
    refine G_aload_n dX9_put_5 rfl rfl ?_
    refine G_alen (v := (nI n)) dX9_put_6 ho (by decide) rfl ?_
    refine Gn_icmp_ge (tgt := 14) dX9_put_7 (by decide) (by omega) (by omega) (fun h7 => ?_) (fun h7 => ?_)
    · omega
    · refine G_aload_n dX9_put_10 rfl rfl ?_
      refine G_iload_n dX9_put_11 rfl rfl ?_
      refine G_iload_n dX9_put_12 rfl rfl ?_
      refine G_iast (k := i) (v := x) dX9_put_13 ho (vp_in_nI (by omega) (by omega)) (nI_clamp (by omega)) rfl ?_
      refine G_vret dX9_put_14 rfl ?_
      exact rfl
theorem c_puts {d o n i : Nat} {x : Int32} {M : Mem} (ho : SHL[o]? = some (.inr (.inl (0, n)))) (hn : n < 2 ^ 31) (hi : i < n) : Call l α D cA uX9_put d [.inr o, .inl (nI i), .inl x] M (fun _ M1 => M1 = ms M o i x) := c_put ho hn hi
theorem c_placeOf {d x y : Nat} {M : Mem} (hx : x < 8) (hy : y < 6) : Call l α D cA uX9_placeOf (d + 1) [.inl (nI x), .inl (nI y)] M (fun r M1 => r = .inl (nI (8 * y + x)) ∧ M1 = M) := by
  refine Call.of kX9_placeOf.1 (Nat.le_of_ble_eq_true rfl) ?_
  refine G_iload_n dX9_placeOf_0 rfl rfl ?_
  refine G_iconst (v := (nI 0)) dX9_placeOf_1 (by decide) ?_
  refine G_bipush (v := (nI 7)) dX9_placeOf_2 (by decide) ?_
  refine G_callSi (ν := uX9_within) (As := [.inl (nI x), .inl (nI 0), .inl (nI 7)]) dX9_placeOf_4 nX9_74 kX9_within rfl rfl rfl (Nat.le_of_ble_eq_true rfl) (c_within) ?_
  rintro _ M9 ⟨rfl, e9⟩
  subst M9
  refine Gb_if_eq (tgt := 28) dX9_placeOf_7 (by decide) (fun h7 => ?_) (fun h7 => ?_)
  · exact absurd h7 (nofalse (inr_nI (by omega) (by omega) (by omega)))
  · refine G_iload_n dX9_placeOf_10 rfl rfl ?_
    refine G_iconst (v := (nI 0)) dX9_placeOf_11 (by decide) ?_
    refine G_iconst (v := (nI 5)) dX9_placeOf_12 (by decide) ?_
    refine G_callSi (ν := uX9_within) (As := [.inl (nI y), .inl (nI 0), .inl (nI 5)]) dX9_placeOf_13 nX9_74 kX9_within rfl rfl rfl (Nat.le_of_ble_eq_true rfl) (c_within) ?_
    rintro _ M9 ⟨rfl, e9⟩
    subst M9
    refine Gb_if_eq (tgt := 28) dX9_placeOf_16 (by decide) (fun h16 => ?_) (fun h16 => ?_)
    · exact absurd h16 (nofalse (inr_nI (by omega) (by omega) (by omega)))
    · refine G_bipush (v := (nI 8)) dX9_placeOf_19 (by decide) ?_
      refine G_iload_n dX9_placeOf_21 rfl rfl ?_
      refine G_imul (v := (nI (8 * y))) dX9_placeOf_22 (pk_mul _ _) ?_
      refine G_iload_n dX9_placeOf_23 rfl rfl ?_
      refine G_iadd (v := (nI ((8 * y) + x))) dX9_placeOf_24 (nI_add _ _) ?_
      refine G_goto (tgt := 30) dX9_placeOf_25 (by decide) ?_
      refine G_iret dX9_placeOf_30 rfl rfl ?_
      exact ⟨rfl, rfl⟩
/-- the place at a side of a place of the grid of 8 columns and 6 rows -/
def nbr (p s : Nat) : Option Nat := match s with
  | 0 => if 8 ≤ p then some (p - 8) else none
  | 1 => if 0 < p % 8 then some (p - 1) else none
  | 2 => if p % 8 < 7 then some (p + 1) else none
  | 3 => if p < 40 then some (p + 8) else none
  | _ => none
def oI (r : Option Nat) : Int32 := match r with
  | none => -9
  | some n => nI n
theorem nbr_lt {p s q : Nat} (hp : p < 48) (h : nbr p s = some q) : q < 48 := by
  unfold nbr at h
  split at h <;> first | (split at h <;> simp at h <;> omega) | (cases h)
theorem c_beside_0 {d p : Nat} {M : Mem} (hp : p < 48) : Call l α D cA uX9_beside d [.inl (nI p), .inl (nI 0)] M (fun r M1 => r = .inl (oI (nbr p 0)) ∧ M1 = M) := by
  refine Call.of kX9_beside.1 (Nat.le_of_ble_eq_true rfl) ?_
  refine G_iload_n dX9_beside_0 rfl rfl ?_
  refine Gn_if_lt (tgt := 10) dX9_beside_1 (by decide) (by omega) (fun h1 => ?_) (fun h1 => ?_)
  · omega
  · refine G_iload_n dX9_beside_4 rfl rfl ?_
    refine G_bipush (v := (nI 48)) dX9_beside_5 (by decide) ?_
    refine Gn_icmp_lt (tgt := 13) dX9_beside_7 (by decide) (by omega) (by omega) (fun h7 => ?_) (fun h7 => ?_)
    · refine G_iload_n dX9_beside_13 rfl rfl ?_
      refine G_swIn (tgt := 44) dX9_beside_14 (by decide) (by decide) rfl (by decide) ?_
      refine G_iload_n dX9_beside_44 rfl rfl ?_
      refine G_bipush (v := (nI 8)) dX9_beside_45 (by decide) ?_
      refine Gn_icmp_lt (tgt := 57) dX9_beside_47 (by decide) (by omega) (by omega) (fun h47 => ?_) (fun h47 => ?_)
      · refine G_bipush (v := ((-9))) dX9_beside_57 (by decide) ?_
        refine G_iret dX9_beside_59 rfl rfl ?_
        exact ⟨congrArg Sum.inl (by rw [nbr]; rw [if_neg (by omega)]; rfl), rfl⟩
      · refine G_iload_n dX9_beside_50 rfl rfl ?_
        refine G_bipush (v := (nI 8)) dX9_beside_51 (by decide) ?_
        refine G_isub (v := (nI (p - 8))) dX9_beside_53 (pk_sub (by omega)) ?_
        refine G_goto (tgt := 59) dX9_beside_54 (by decide) ?_
        refine G_iret dX9_beside_59 rfl rfl ?_
        exact ⟨congrArg Sum.inl (by rw [nbr]; rw [if_pos (by omega)]; rfl), rfl⟩
    · refine G_bipush (v := ((-9))) dX9_beside_10 (by decide) ?_
      refine G_iret dX9_beside_12 rfl rfl ?_
      exact ⟨congrArg Sum.inl (by rw [nbr]; rw [if_neg (by omega)]; rfl), rfl⟩
theorem c_beside_1 {d p : Nat} {M : Mem} (hp : p < 48) : Call l α D cA uX9_beside d [.inl (nI p), .inl (nI 1)] M (fun r M1 => r = .inl (oI (nbr p 1)) ∧ M1 = M) := by
  refine Call.of kX9_beside.1 (Nat.le_of_ble_eq_true rfl) ?_
  refine G_iload_n dX9_beside_0 rfl rfl ?_
  refine Gn_if_lt (tgt := 10) dX9_beside_1 (by decide) (by omega) (fun h1 => ?_) (fun h1 => ?_)
  · omega
  · refine G_iload_n dX9_beside_4 rfl rfl ?_
    refine G_bipush (v := (nI 48)) dX9_beside_5 (by decide) ?_
    refine Gn_icmp_lt (tgt := 13) dX9_beside_7 (by decide) (by omega) (by omega) (fun h7 => ?_) (fun h7 => ?_)
    · refine G_iload_n dX9_beside_13 rfl rfl ?_
      refine G_swIn (tgt := 60) dX9_beside_14 (by decide) (by decide) rfl (by decide) ?_
      refine G_iload_n dX9_beside_60 rfl rfl ?_
      refine G_bipush (v := (nI 8)) dX9_beside_61 (by decide) ?_
      refine G_irem (v := (nI (p % 8))) dX9_beside_63 (nI_ne0 (by omega) (by omega)) (pk_rem (by omega) (by omega) (by omega)) ?_
      refine Gn_if_le (tgt := 73) dX9_beside_64 (by decide) (by omega) (fun h64 => ?_) (fun h64 => ?_)
      · refine G_bipush (v := ((-9))) dX9_beside_73 (by decide) ?_
        refine G_iret dX9_beside_75 rfl rfl ?_
        exact ⟨congrArg Sum.inl (by rw [nbr]; rw [if_neg (by omega)]; rfl), rfl⟩
      · refine G_iload_n dX9_beside_67 rfl rfl ?_
        refine G_iconst (v := (nI 1)) dX9_beside_68 (by decide) ?_
        refine G_isub (v := (nI (p - 1))) dX9_beside_69 (pk_sub (by omega)) ?_
        refine G_goto (tgt := 75) dX9_beside_70 (by decide) ?_
        refine G_iret dX9_beside_75 rfl rfl ?_
        exact ⟨congrArg Sum.inl (by rw [nbr]; rw [if_pos (by omega)]; rfl), rfl⟩
    · refine G_bipush (v := ((-9))) dX9_beside_10 (by decide) ?_
      refine G_iret dX9_beside_12 rfl rfl ?_
      exact ⟨congrArg Sum.inl (by rw [nbr]; rw [if_neg (by omega)]; rfl), rfl⟩
theorem c_beside_2 {d p : Nat} {M : Mem} (hp : p < 48) : Call l α D cA uX9_beside d [.inl (nI p), .inl (nI 2)] M (fun r M1 => r = .inl (oI (nbr p 2)) ∧ M1 = M) := by
  refine Call.of kX9_beside.1 (Nat.le_of_ble_eq_true rfl) ?_
  refine G_iload_n dX9_beside_0 rfl rfl ?_
  refine Gn_if_lt (tgt := 10) dX9_beside_1 (by decide) (by omega) (fun h1 => ?_) (fun h1 => ?_)
  · omega
  · refine G_iload_n dX9_beside_4 rfl rfl ?_
    refine G_bipush (v := (nI 48)) dX9_beside_5 (by decide) ?_
    refine Gn_icmp_lt (tgt := 13) dX9_beside_7 (by decide) (by omega) (by omega) (fun h7 => ?_) (fun h7 => ?_)
    · refine G_iload_n dX9_beside_13 rfl rfl ?_
      refine G_swIn (tgt := 76) dX9_beside_14 (by decide) (by decide) rfl (by decide) ?_
      refine G_iload_n dX9_beside_76 rfl rfl ?_
      refine G_bipush (v := (nI 8)) dX9_beside_77 (by decide) ?_
      refine G_irem (v := (nI (p % 8))) dX9_beside_79 (nI_ne0 (by omega) (by omega)) (pk_rem (by omega) (by omega) (by omega)) ?_
      refine G_bipush (v := (nI 7)) dX9_beside_80 (by decide) ?_
      refine Gn_icmp_ge (tgt := 91) dX9_beside_82 (by decide) (by omega) (by omega) (fun h82 => ?_) (fun h82 => ?_)
      · refine G_bipush (v := ((-9))) dX9_beside_91 (by decide) ?_
        refine G_iret dX9_beside_93 rfl rfl ?_
        exact ⟨congrArg Sum.inl (by rw [nbr]; rw [if_neg (by omega)]; rfl), rfl⟩
      · refine G_iload_n dX9_beside_85 rfl rfl ?_
        refine G_iconst (v := (nI 1)) dX9_beside_86 (by decide) ?_
        refine G_iadd (v := (nI (p + 1))) dX9_beside_87 (nI_add _ _) ?_
        refine G_goto (tgt := 93) dX9_beside_88 (by decide) ?_
        refine G_iret dX9_beside_93 rfl rfl ?_
        exact ⟨congrArg Sum.inl (by rw [nbr]; rw [if_pos (by omega)]; rfl), rfl⟩
    · refine G_bipush (v := ((-9))) dX9_beside_10 (by decide) ?_
      refine G_iret dX9_beside_12 rfl rfl ?_
      exact ⟨congrArg Sum.inl (by rw [nbr]; rw [if_neg (by omega)]; rfl), rfl⟩
theorem c_beside_3 {d p : Nat} {M : Mem} (hp : p < 48) : Call l α D cA uX9_beside d [.inl (nI p), .inl (nI 3)] M (fun r M1 => r = .inl (oI (nbr p 3)) ∧ M1 = M) := by
  refine Call.of kX9_beside.1 (Nat.le_of_ble_eq_true rfl) ?_
  refine G_iload_n dX9_beside_0 rfl rfl ?_
  refine Gn_if_lt (tgt := 10) dX9_beside_1 (by decide) (by omega) (fun h1 => ?_) (fun h1 => ?_)
  · omega
  · refine G_iload_n dX9_beside_4 rfl rfl ?_
    refine G_bipush (v := (nI 48)) dX9_beside_5 (by decide) ?_
    refine Gn_icmp_lt (tgt := 13) dX9_beside_7 (by decide) (by omega) (by omega) (fun h7 => ?_) (fun h7 => ?_)
    · refine G_iload_n dX9_beside_13 rfl rfl ?_
      refine G_swIn (tgt := 94) dX9_beside_14 (by decide) (by decide) rfl (by decide) ?_
      refine G_iload_n dX9_beside_94 rfl rfl ?_
      refine G_bipush (v := (nI 40)) dX9_beside_95 (by decide) ?_
      refine Gn_icmp_ge (tgt := 107) dX9_beside_97 (by decide) (by omega) (by omega) (fun h97 => ?_) (fun h97 => ?_)
      · refine G_bipush (v := ((-9))) dX9_beside_107 (by decide) ?_
        refine G_iret dX9_beside_109 rfl rfl ?_
        exact ⟨congrArg Sum.inl (by rw [nbr]; rw [if_neg (by omega)]; rfl), rfl⟩
      · refine G_iload_n dX9_beside_100 rfl rfl ?_
        refine G_bipush (v := (nI 8)) dX9_beside_101 (by decide) ?_
        refine G_iadd (v := (nI (p + 8))) dX9_beside_103 (nI_add _ _) ?_
        refine G_goto (tgt := 109) dX9_beside_104 (by decide) ?_
        refine G_iret dX9_beside_109 rfl rfl ?_
        exact ⟨congrArg Sum.inl (by rw [nbr]; rw [if_pos (by omega)]; rfl), rfl⟩
    · refine G_bipush (v := ((-9))) dX9_beside_10 (by decide) ?_
      refine G_iret dX9_beside_12 rfl rfl ?_
      exact ⟨congrArg Sum.inl (by rw [nbr]; rw [if_neg (by omega)]; rfl), rfl⟩
theorem c_beside {d p s : Nat} {M : Mem} (hp : p < 48) (hs : s < 4) : Call l α D cA uX9_beside d [.inl (nI p), .inl (nI s)] M (fun r M1 => r = .inl (oI (nbr p s)) ∧ M1 = M) := by
  have h : s = 0 ∨ s = 1 ∨ s = 2 ∨ s = 3 := by omega
  rcases h with rfl | rfl | rfl | rfl
  · exact c_beside_0 hp
  · exact c_beside_1 hp
  · exact c_beside_2 hp
  · exact c_beside_3 hp
def fil (f : Nat → Int32) (n : Nat) (v : Int32) : Nat → Int32 := fun j => if j < n then v else f j
theorem fil_0 {f : Nat → Int32} {v : Int32} : fil f 0 v = f := by funext j; simp [fil]
theorem fil_in {f : Nat → Int32} {n j : Nat} {v : Int32} (h : j < n) : fil f n v j = v := if_pos h
theorem fil_s {M : Mem} {o : Nat} {f : Nat → Int32} {i : Nat} {v : Int32} : ms (mo M o (fil f i v)) o i v = mo M o (fil f (i + 1) v) := by
  rw [ms_idem]
  congr 1
  funext j
  unfold upd fil
  by_cases h : j = i
  · subst h
    simp
  · rw [if_neg h]
    by_cases h2 : j < i
    · rw [if_pos h2, if_pos (by omega)]
    · rw [if_neg h2, if_neg (by omega)]
theorem l_wipe {d o n : Nat} {M : Mem} (ho : SHL[o]? = some (.inr (.inl (1, n)))) (hn : n < 2 ^ 31) : ∀ k i : Nat, n - i = k → i ≤ n → G l α D cA uX9_wipe none d (fun _ M1 => M1 = mo M o (fil (M o) n (nI 0))) 2 [some (.inr o), some (.inl (nI i))] [] (mo M o (fil (M o) i (nI 0))) := by
  intro k
  induction k using Nat.strongRecOn with
  | _ k ih => ?_
  intro i hk hi
  refine G_iload_n dX9_wipe_2 rfl rfl ?_
  refine G_aload_n dX9_wipe_3 rfl rfl ?_
  refine G_alen (v := (nI n)) dX9_wipe_4 ho (by decide) rfl ?_
  refine Gn_icmp_ge (tgt := 18) dX9_wipe_5 (by decide) (by omega) (by omega) (fun h5 => ?_) (fun h5 => ?_)
  · refine G_vret dX9_wipe_18 rfl ?_
    have e : i = n := by omega
    subst e
    rfl
  · refine G_aload_n dX9_wipe_8 rfl rfl ?_
    refine G_iload_n dX9_wipe_9 rfl rfl ?_
    refine G_iconst (v := (nI 0)) dX9_wipe_10 (by decide) ?_
    refine G_zast (k := i) (v := (nI 0)) dX9_wipe_11 ho (vp_in_nI (by omega) (by omega)) (nI_clamp (by omega)) (by decide) ?_
    refine G_iinc (v := (nI (i + 1))) (L2 := [some (.inr o), some (.inl (nI (i + 1)))]) dX9_wipe_12 rfl (nI_1 _) rfl ?_
    refine G_goto (tgt := 2) dX9_wipe_15 (by decide) ?_
    rw [fil_s]
    exact ih (n - (i + 1)) (by omega) (i + 1) rfl (by omega)
theorem c_wipe {d o n : Nat} {M : Mem} (ho : SHL[o]? = some (.inr (.inl (1, n)))) (hn : n < 2 ^ 31) : Call l α D cA uX9_wipe d [.inr o] M (fun _ M1 => M1 = mo M o (fil (M o) n (nI 0))) := by
  refine Call.of kX9_wipe.1 (Nat.le_of_ble_eq_true rfl) ?_
  refine G_iconst (v := (nI 0)) dX9_wipe_0 (by decide) ?_
  refine G_istore_n (L2 := [some (.inr o), some (.inl (nI 0))]) dX9_wipe_1 rfl (Nat.le_of_ble_eq_true rfl) rfl ?_
  have h := l_wipe (l := l) (α := α) (D := D) (cA := cA) (d := d) (M := M) ho hn n 0 rfl (Nat.zero_le _)
  rw [fil_0, mo_self] at h
  exact h
theorem l_fill {d o n : Nat} {v : Int32} {M : Mem} (ho : SHL[o]? = some (.inr (.inl (0, n)))) (hn : n < 2 ^ 31) : ∀ k i : Nat, n - i = k → i ≤ n → G l α D cA uJ7_fill_53178 none d (fun _ M1 => M1 = mo M o (fil (M o) n v)) 5 [some (.inr o), some (.inl v), some (.inl (nI i)), some (.inl (nI n))] [] (mo M o (fil (M o) i v)) := by
  intro k
  induction k using Nat.strongRecOn with
  | _ k ih => ?_
  intro i hk hi
  refine G_iload_n dJ7_fill_53178_5 rfl rfl ?_
  refine G_iload_n dJ7_fill_53178_6 rfl rfl ?_
  refine Gn_icmp_ge (tgt := 20) dJ7_fill_53178_7 (by decide) (by omega) (by omega) (fun h7 => ?_) (fun h7 => ?_)
  · refine G_vret dJ7_fill_53178_20 rfl ?_
    have e : i = n := by omega
    subst e
    rfl
  · refine G_aload_n dJ7_fill_53178_10 rfl rfl ?_
    refine G_iload_n dJ7_fill_53178_11 rfl rfl ?_
    refine G_iload_n dJ7_fill_53178_12 rfl rfl ?_
    refine G_iast (k := i) (v := v) dJ7_fill_53178_13 ho (vp_in_nI (by omega) (by omega)) (nI_clamp (by omega)) rfl ?_
    refine G_iinc (v := (nI (i + 1))) (L2 := [some (.inr o), some (.inl v), some (.inl (nI (i + 1))), some (.inl (nI n))]) dJ7_fill_53178_14 rfl (nI_1 _) rfl ?_
    refine G_goto (tgt := 5) dJ7_fill_53178_17 (by decide) ?_
    rw [fil_s]
    exact ih (n - (i + 1)) (by omega) (i + 1) rfl (by omega)
theorem c_fill {d o n : Nat} {v : Int32} {M : Mem} (ho : SHL[o]? = some (.inr (.inl (0, n)))) (hn : n < 2 ^ 31) : Call l α D cA uJ7_fill_53178 d [.inr o, .inl v] M (fun _ M1 => M1 = mo M o (fil (M o) n v)) := by
  refine Call.of kJ7_fill_53178.1 (Nat.le_of_ble_eq_true rfl) ?_
  refine G_iconst (v := (nI 0)) dJ7_fill_53178_0 (by decide) ?_
  refine G_istore_n (L2 := [some (.inr o), some (.inl v), some (.inl (nI 0)), none]) dJ7_fill_53178_1 rfl (Nat.le_of_ble_eq_true rfl) rfl ?_
  refine G_aload_n dJ7_fill_53178_2 rfl rfl ?_
  refine G_alen (v := (nI n)) dJ7_fill_53178_3 ho (by decide) rfl ?_
  refine G_istore_n (L2 := [some (.inr o), some (.inl v), some (.inl (nI 0)), some (.inl (nI n))]) dJ7_fill_53178_4 rfl (Nat.le_of_ble_eq_true rfl) rfl ?_
  have h := l_fill (l := l) (α := α) (D := D) (cA := cA) (d := d) (v := v) (M := M) ho hn n 0 rfl (Nat.zero_le _)
  rw [fil_0, mo_self] at h
  exact h
theorem l_count {d o n : Nat} {f : Nat → Bool} {M : Mem} (ho : SHL[o]? = some (.inr (.inl (1, n)))) (hn : n < 2 ^ 31) (hf : ∀ i, i < n → M o i = bI (f i)) : ∀ (k i : Nat) (x : Option AV), n - i = k → i ≤ n → G l α D cA uX9_countTrue none d (fun r M1 => r = .inl (nI (fb_ct f n)) ∧ M1 = M) 10 [some (.inr o), some (.inl (nI ((fb_ct f i)))), some (.inr o), some (.inl (nI n)), some (.inl (nI i)), x] [] M := by
  intro k
  induction k using Nat.strongRecOn with
  | _ k ih => ?_
  intro i x hk hi
  have hle := fb_ct_le f i
  refine G_iload dX9_countTrue_10 rfl ?_
  refine G_iload_n dX9_countTrue_12 rfl rfl ?_
  refine Gn_icmp_ge (tgt := 41) dX9_countTrue_13 (by decide) (by omega) (by omega) (fun h13 => ?_) (fun h13 => ?_)
  · refine G_iload_n dX9_countTrue_41 rfl rfl ?_
    refine G_iret dX9_countTrue_42 rfl rfl ?_
    have e : i = n := by omega
    subst e
    exact ⟨rfl, rfl⟩
  · refine G_aload_n dX9_countTrue_16 rfl rfl ?_
    refine G_iload dX9_countTrue_17 rfl ?_
    refine G_zald (k := i) (v := (bI (f i))) dX9_countTrue_19 ho (vp_in_nI (by omega) (by omega)) (nI_clamp (by omega)) (hf i (by omega)) ?_
    refine G_istore (L2 := [some (.inr o), some (.inl (nI ((fb_ct f i)))), some (.inr o), some (.inl (nI n)), some (.inl (nI i)), some (.inl (bI (f i)))]) dX9_countTrue_20 (Nat.le_of_ble_eq_true rfl) rfl ?_
    refine G_iload_n dX9_countTrue_22 rfl rfl ?_
    refine G_iload dX9_countTrue_23 rfl ?_
    refine Gb_if_eq (tgt := 32) dX9_countTrue_25 (by decide) (fun h25 => ?_) (fun h25 => ?_)
    · refine G_iconst (v := (nI 0)) dX9_countTrue_32 (by decide) ?_
      refine G_iadd (v := (nI (((fb_ct f i)) + 0))) dX9_countTrue_33 (nI_add _ _) ?_
      have e : fb_ct f (i + 1) = fb_ct f i + (if f i then 1 else 0) := rfl
      rw [h25] at e
      refine G_istore_n (L2 := [some (.inr o), some (.inl (nI (((fb_ct f i)) + 0))), some (.inr o), some (.inl (nI n)), some (.inl (nI i)), some (.inl (bI (f i)))]) dX9_countTrue_34 rfl (Nat.le_of_ble_eq_true rfl) rfl ?_
      refine G_iinc (v := (nI (i + 1))) (L2 := [some (.inr o), some (.inl (nI (((fb_ct f i)) + 0))), some (.inr o), some (.inl (nI n)), some (.inl (nI (i + 1))), some (.inl (bI (f i)))]) dX9_countTrue_35 rfl (nI_1 _) rfl ?_
      refine G_goto (tgt := 10) dX9_countTrue_38 (by decide) ?_
      have e : fb_ct f (i + 1) = fb_ct f i + (if f i then 1 else 0) := rfl
      rw [h25] at e
      rw [show fb_ct f i + 0 = fb_ct f (i + 1) by simp at e; omega]
      exact ih (n - (i + 1)) (by omega) (i + 1) _ rfl (by omega)
    · refine G_iconst (v := (nI 1)) dX9_countTrue_28 (by decide) ?_
      refine G_goto (tgt := 33) dX9_countTrue_29 (by decide) ?_
      refine G_iadd (v := (nI (((fb_ct f i)) + 1))) dX9_countTrue_33 (nI_add _ _) ?_
      have e : fb_ct f (i + 1) = fb_ct f i + (if f i then 1 else 0) := rfl
      rw [h25] at e
      refine G_istore_n (L2 := [some (.inr o), some (.inl (nI (((fb_ct f i)) + 1))), some (.inr o), some (.inl (nI n)), some (.inl (nI i)), some (.inl (bI (f i)))]) dX9_countTrue_34 rfl (Nat.le_of_ble_eq_true rfl) rfl ?_
      refine G_iinc (v := (nI (i + 1))) (L2 := [some (.inr o), some (.inl (nI (((fb_ct f i)) + 1))), some (.inr o), some (.inl (nI n)), some (.inl (nI (i + 1))), some (.inl (bI (f i)))]) dX9_countTrue_35 rfl (nI_1 _) rfl ?_
      refine G_goto (tgt := 10) dX9_countTrue_38 (by decide) ?_
      have e : fb_ct f (i + 1) = fb_ct f i + (if f i then 1 else 0) := rfl
      rw [h25] at e
      rw [show fb_ct f i + 1 = fb_ct f (i + 1) by simp at e; omega]
      exact ih (n - (i + 1)) (by omega) (i + 1) _ rfl (by omega)
theorem c_count {d o n : Nat} {f : Nat → Bool} {M : Mem} (ho : SHL[o]? = some (.inr (.inl (1, n)))) (hn : n < 2 ^ 31) (hf : ∀ i, i < n → M o i = bI (f i)) : Call l α D cA uX9_countTrue d [.inr o] M (fun r M1 => r = .inl (nI (fb_ct f n)) ∧ M1 = M) := by
  refine Call.of kX9_countTrue.1 (Nat.le_of_ble_eq_true rfl) ?_
  refine G_iconst (v := (nI 0)) dX9_countTrue_0 (by decide) ?_
  refine G_istore_n (L2 := [some (.inr o), some (.inl (nI 0)), none, none, none, none]) dX9_countTrue_1 rfl (Nat.le_of_ble_eq_true rfl) rfl ?_
  refine G_aload_n dX9_countTrue_2 rfl rfl ?_
  refine G_astore_n (L2 := [some (.inr o), some (.inl (nI 0)), some (.inr o), none, none, none]) dX9_countTrue_3 rfl (Nat.le_of_ble_eq_true rfl) rfl ?_
  refine G_aload_n dX9_countTrue_4 rfl rfl ?_
  refine G_alen (v := (nI n)) dX9_countTrue_5 ho (by decide) rfl ?_
  refine G_istore_n (L2 := [some (.inr o), some (.inl (nI 0)), some (.inr o), some (.inl (nI n)), none, none]) dX9_countTrue_6 rfl (Nat.le_of_ble_eq_true rfl) rfl ?_
  refine G_iconst (v := (nI 0)) dX9_countTrue_7 (by decide) ?_
  refine G_istore (L2 := [some (.inr o), some (.inl (nI 0)), some (.inr o), some (.inl (nI n)), some (.inl (nI 0)), none]) dX9_countTrue_8 (Nat.le_of_ble_eq_true rfl) rfl ?_
  exact l_count ho hn hf n 0 none rfl (Nat.zero_le _)
end P10
