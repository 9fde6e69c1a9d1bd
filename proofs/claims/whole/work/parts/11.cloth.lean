/-! Cloth: the object o, its array of values v -/
section P11
variable {l : Launch} {α : Nat → Nat} {D : va_G} {cA : Nat → ClassId}
noncomputable def dec (P : Prop) : Bool := @decide P (Classical.propDecidable P)
theorem dec_t {P : Prop} (h : P) : dec P = true := @decide_eq_true P (Classical.propDecidable P) h
theorem dec_f {P : Prop} (h : ¬ P) : dec P = false := @decide_eq_false P (Classical.propDecidable P) h
theorem dec_iff {P : Prop} : dec P = true ↔ P := ⟨fun h => Classical.byContradiction fun q => (by rw [dec_f q] at h; cases h), dec_t⟩
theorem dec_niff {P : Prop} : dec P = false ↔ ¬ P := ⟨fun h q => (by rw [dec_t q] at h; cases h), dec_f⟩
theorem dec_eq {P Q : Prop} (h : P ↔ Q) : dec P = dec Q := by rw [propext h]
theorem bI_dt {P : Prop} (h : P) : nI 1 = bI (dec P) := bI_t (dec_t h)
theorem bI_df {P : Prop} (h : ¬ P) : nI 0 = bI (dec P) := bI_f (dec_f h)
/-- an array of a cloth holds g -/
def hC (g : Nat → Nat) (f : Nat → Int32) : Prop := ∀ i, i < 60 → f i = nI (g i)
def g9 (g : Nat → Nat) : Prop := ∀ i, i < 60 → g i ≤ 9
def colr (g : Nat → Nat) (q : Option Nat) : Nat := match q with
  | none => 0
  | some p => g (12 + p)
theorem colr_le {g : Nat → Nat} {q : Option Nat} (hg : g9 g) (hq : ∀ p, q = some p → p < 48) : colr g q ≤ 9 := by
  cases q with
  | none => exact Nat.zero_le _
  | some p => exact hg _ (by have := hq p rfl; omega)
theorem colr_nbr {g : Nat → Nat} {p s : Nat} (hg : g9 g) (hp : p < 48) : colr g (nbr p s) ≤ 9 := colr_le hg (fun _ h => nbr_lt hp h)
def gS (i : Nat) : Nat := if i = 0 then 1 else if i = 1 then 1 else if i = 2 then 3 else 0
theorem c_start {d o v : Nat} {M : Mem} (ho : SHL[o]? = some (.inl (0, [some v]))) (hv : SHL[v]? = some (.inr (.inl (0, 60)))) : Call l α D cA uX0_start (d + 1) [.inr o] M (fun _ M1 => ∃ f, M1 = mo M v f ∧ hC gS f) := by
  refine Call.of kX0_start.1 (Nat.le_of_ble_eq_true rfl) ?_
  refine G_aload_n dX0_start_0 rfl rfl ?_
  refine G_getR (j := v) dX0_start_1 fX0_11 ho rfl ?_
  refine G_iconst (v := (nI 0)) dX0_start_4 (by decide) ?_
  refine G_callSv (ν := uJ7_fill_53178) (As := [.inr v, .inl (nI 0)]) dX0_start_5 nX0_18 kJ7_fill_53178 rfl rfl rfl (Nat.le_of_ble_eq_true rfl) (c_fill (o := v) (v := nI 0) hv (by decide)) ?_
  rintro _ _ rfl
  refine G_aload_n dX0_start_8 rfl rfl ?_
  refine G_getR (j := v) dX0_start_9 fX0_11 ho rfl ?_
  refine G_iconst (v := (nI 0)) dX0_start_12 (by decide) ?_
  refine G_iconst (v := (nI 1)) dX0_start_13 (by decide) ?_
  refine G_iast (k := 0) (v := (nI 1)) dX0_start_14 hv (vp_in_nI (by decide) (by decide)) rfl rfl ?_
  refine G_aload_n dX0_start_15 rfl rfl ?_
  refine G_getR (j := v) dX0_start_16 fX0_11 ho rfl ?_
  refine G_iconst (v := (nI 1)) dX0_start_19 (by decide) ?_
  refine G_iconst (v := (nI 1)) dX0_start_20 (by decide) ?_
  refine G_iast (k := 1) (v := (nI 1)) dX0_start_21 hv (vp_in_nI (by decide) (by decide)) rfl rfl ?_
  refine G_aload_n dX0_start_22 rfl rfl ?_
  refine G_getR (j := v) dX0_start_23 fX0_11 ho rfl ?_
  refine G_iconst (v := (nI 2)) dX0_start_26 (by decide) ?_
  refine G_iconst (v := (nI 3)) dX0_start_27 (by decide) ?_
  refine G_iast (k := 2) (v := (nI 3)) dX0_start_28 hv (vp_in_nI (by decide) (by decide)) rfl rfl ?_
  refine G_vret dX0_start_29 rfl ?_
  rw [ms_idem, ms_idem, ms_idem]
  refine ⟨_, rfl, fun i hi => ?_⟩
  unfold upd fil gS
  repeat (first | (split; (try (rename_i h9; subst h9)); (try omega); (try rfl)) | (rw [if_pos (by omega)]) | (rw [if_neg (by omega)]) | rfl)
theorem c_get {d o v i : Nat} {M : Mem} (ho : SHL[o]? = some (.inl (0, [some v]))) (hv : SHL[v]? = some (.inr (.inl (0, 60)))) (hi : i < 60) : Call l α D cA uX0_get (d + 1) [.inr o, .inl (nI i)] M (fun r M1 => r = .inl (M v i) ∧ M1 = M) := by
  refine Call.of kX0_get.1 (Nat.le_of_ble_eq_true rfl) ?_
  refine G_aload_n dX0_get_0 rfl rfl ?_
  refine G_getR (j := v) dX0_get_1 fX0_11 ho rfl ?_
  refine G_iload_n dX0_get_4 rfl rfl ?_
  refine G_callSi (ν := uX9_at) (As := [.inr v, .inl (nI i)]) dX0_get_5 nX0_24 kX9_at rfl rfl rfl (Nat.le_of_ble_eq_true rfl) (c_at (o := v) (n := 60) hv (by decide) (hi)) ?_
  rintro _ M9 ⟨rfl, e9⟩
  subst M9
  refine G_iret dX0_get_8 rfl rfl ?_
  exact ⟨rfl, rfl⟩
theorem c_set {d o v i : Nat} {x : Int32} {M : Mem} (ho : SHL[o]? = some (.inl (0, [some v]))) (hv : SHL[v]? = some (.inr (.inl (0, 60)))) (hi : i < 60) : Call l α D cA uX0_set (d + 1) [.inr o, .inl (nI i), .inl x] M (fun _ M1 => M1 = mo M v (upd (M v) i x)) := by
  refine Call.of kX0_set.1 (Nat.le_of_ble_eq_true rfl) ?_
  refine G_aload_n dX0_set_0 rfl rfl ?_
  refine G_getR (j := v) dX0_set_1 fX0_11 ho rfl ?_
  refine G_iload_n dX0_set_4 rfl rfl ?_
  refine G_iload_n dX0_set_5 rfl rfl ?_
  refine G_callSv (ν := uX9_put) (As := [.inr v, .inl (nI i), .inl x]) dX0_set_6 nX0_28 kX9_put rfl rfl rfl (Nat.le_of_ble_eq_true rfl) (c_put (o := v) (n := 60) hv (by decide) hi) ?_
  rintro _ _ rfl
  refine G_vret dX0_set_9 rfl ?_
  exact rfl
theorem c_paint {d o v p : Nat} {x : Int32} {M : Mem} (ho : SHL[o]? = some (.inl (0, [some v]))) (hv : SHL[v]? = some (.inr (.inl (0, 60)))) (hp : p < 48) : Call l α D cA uX0_paint d [.inr o, .inl (nI p), .inl x] M (fun _ M1 => M1 = mo M v (upd (M v) (12 + p) x)) := by
  refine Call.of kX0_paint.1 (Nat.le_of_ble_eq_true rfl) ?_
  refine G_iload_n dX0_paint_0 rfl rfl ?_
  refine Gn_if_lt (tgt := 20) dX0_paint_1 (by decide) (by omega) (fun h1 => ?_) (fun h1 => ?_)
  · omega
  · refine G_iload_n dX0_paint_4 rfl rfl ?_
    refine G_bipush (v := (nI 48)) dX0_paint_5 (by decide) ?_
    refine Gn_icmp_ge (tgt := 20) dX0_paint_7 (by decide) (by omega) (by omega) (fun h7 => ?_) (fun h7 => ?_)
    · omega
    · refine G_aload_n dX0_paint_10 rfl rfl ?_
      refine G_getR (j := v) dX0_paint_11 fX0_11 ho rfl ?_
      refine G_bipush (v := (nI 12)) dX0_paint_14 (by decide) ?_
      refine G_iload_n dX0_paint_16 rfl rfl ?_
      refine G_iadd (v := (nI (12 + p))) dX0_paint_17 (nI_add _ _) ?_
      refine G_iload_n dX0_paint_18 rfl rfl ?_
      refine G_iast (k := 12 + p) (v := x) dX0_paint_19 hv (vp_in_nI (by omega) (by omega)) (nI_clamp (by omega)) rfl ?_
      refine G_vret dX0_paint_20 rfl ?_
      exact rfl
theorem c_width {d o v : Nat} {x : Int32} {M : Mem} (ho : SHL[o]? = some (.inl (0, [some v]))) (hv : SHL[v]? = some (.inr (.inl (0, 60)))) (hx : M v 0 = x) : Call l α D cA uX0_width d [.inr o] M (fun r M1 => r = .inl x ∧ M1 = M) := by
  refine Call.of kX0_width.1 (Nat.le_of_ble_eq_true rfl) ?_
  refine G_aload_n dX0_width_0 rfl rfl ?_
  refine G_getR (j := v) dX0_width_1 fX0_11 ho rfl ?_
  refine G_iconst (v := (nI 0)) dX0_width_4 (by decide) ?_
  refine G_iald (k := 0) (v := (M v 0)) dX0_width_5 hv (vp_in_nI (by decide) (by decide)) rfl rfl ?_
  refine G_iret dX0_width_6 rfl rfl ?_
  exact ⟨congrArg Sum.inl hx, rfl⟩
theorem c_height {d o v : Nat} {x : Int32} {M : Mem} (ho : SHL[o]? = some (.inl (0, [some v]))) (hv : SHL[v]? = some (.inr (.inl (0, 60)))) (hx : M v 1 = x) : Call l α D cA uX0_height d [.inr o] M (fun r M1 => r = .inl x ∧ M1 = M) := by
  refine Call.of kX0_height.1 (Nat.le_of_ble_eq_true rfl) ?_
  refine G_aload_n dX0_height_0 rfl rfl ?_
  refine G_getR (j := v) dX0_height_1 fX0_11 ho rfl ?_
  refine G_iconst (v := (nI 1)) dX0_height_4 (by decide) ?_
  refine G_iald (k := 1) (v := (M v 1)) dX0_height_5 hv (vp_in_nI (by decide) (by decide)) rfl rfl ?_
  refine G_iret dX0_height_6 rfl rfl ?_
  exact ⟨congrArg Sum.inl hx, rfl⟩
theorem c_most {d o v : Nat} {x : Int32} {M : Mem} (ho : SHL[o]? = some (.inl (0, [some v]))) (hv : SHL[v]? = some (.inr (.inl (0, 60)))) (hx : M v 2 = x) : Call l α D cA uX0_most d [.inr o] M (fun r M1 => r = .inl x ∧ M1 = M) := by
  refine Call.of kX0_most.1 (Nat.le_of_ble_eq_true rfl) ?_
  refine G_aload_n dX0_most_0 rfl rfl ?_
  refine G_getR (j := v) dX0_most_1 fX0_11 ho rfl ?_
  refine G_iconst (v := (nI 2)) dX0_most_4 (by decide) ?_
  refine G_iald (k := 2) (v := (M v 2)) dX0_most_5 hv (vp_in_nI (by decide) (by decide)) rfl rfl ?_
  refine G_iret dX0_most_6 rfl rfl ?_
  exact ⟨congrArg Sum.inl hx, rfl⟩
theorem c_pull {d o v : Nat} {x : Int32} {M : Mem} (ho : SHL[o]? = some (.inl (0, [some v]))) (hv : SHL[v]? = some (.inr (.inl (0, 60)))) (hx : M v 3 = x) : Call l α D cA uX0_pull d [.inr o] M (fun r M1 => r = .inl x ∧ M1 = M) := by
  refine Call.of kX0_pull.1 (Nat.le_of_ble_eq_true rfl) ?_
  refine G_aload_n dX0_pull_0 rfl rfl ?_
  refine G_getR (j := v) dX0_pull_1 fX0_11 ho rfl ?_
  refine G_iconst (v := (nI 3)) dX0_pull_4 (by decide) ?_
  refine G_iald (k := 3) (v := (M v 3)) dX0_pull_5 hv (vp_in_nI (by decide) (by decide)) rfl rfl ?_
  refine G_iret dX0_pull_6 rfl rfl ?_
  exact ⟨congrArg Sum.inl hx, rfl⟩
theorem c_wayOf {d o v c : Nat} {M : Mem} (ho : SHL[o]? = some (.inl (0, [some v]))) (hv : SHL[v]? = some (.inr (.inl (0, 60)))) (hc : 1 ≤ c) (hc3 : c ≤ 3) : Call l α D cA uX0_wayOf (d + 1) [.inr o, .inl (nI c)] M (fun r M1 => r = .inl (M v (4 + c)) ∧ M1 = M) := by
  refine Call.of kX0_wayOf.1 (Nat.le_of_ble_eq_true rfl) ?_
  refine G_iload_n dX0_wayOf_0 rfl rfl ?_
  refine G_iconst (v := (nI 1)) dX0_wayOf_1 (by decide) ?_
  refine G_iconst (v := (nI 3)) dX0_wayOf_2 (by decide) ?_
  refine G_callSi (ν := uX9_within) (As := [.inl (nI c), .inl (nI 1), .inl (nI 3)]) dX0_wayOf_3 nX0_32 kX9_within rfl rfl rfl (Nat.le_of_ble_eq_true rfl) (c_within) ?_
  rintro _ M9 ⟨rfl, e9⟩
  subst M9
  rw [inr_nI hc hc3 (by decide)]
  refine Gb_if_eq (tgt := 20) dX0_wayOf_6 (by decide) (fun h6 => ?_) (fun h6 => ?_)
  · exact absurd h6 (by decide)
  · refine G_aload_n dX0_wayOf_9 rfl rfl ?_
    refine G_getR (j := v) dX0_wayOf_10 fX0_11 ho rfl ?_
    refine G_iconst (v := (nI 4)) dX0_wayOf_13 (by decide) ?_
    refine G_iload_n dX0_wayOf_14 rfl rfl ?_
    refine G_iadd (v := (nI (4 + c))) dX0_wayOf_15 (nI_add _ _) ?_
    refine G_iald (k := 4 + c) (v := (M v (4 + c))) dX0_wayOf_16 hv (vp_in_nI (by omega) (by omega)) (nI_clamp (by omega)) rfl ?_
    refine G_goto (tgt := 21) dX0_wayOf_17 (by decide) ?_
    refine G_iret dX0_wayOf_21 rfl rfl ?_
    exact ⟨rfl, rfl⟩
theorem c_rankOf {d o v c : Nat} {M : Mem} (ho : SHL[o]? = some (.inl (0, [some v]))) (hv : SHL[v]? = some (.inr (.inl (0, 60)))) (hc : 1 ≤ c) (hc3 : c ≤ 3) : Call l α D cA uX0_rankOf (d + 1) [.inr o, .inl (nI c)] M (fun r M1 => r = .inl (M v (8 + c)) ∧ M1 = M) := by
  refine Call.of kX0_rankOf.1 (Nat.le_of_ble_eq_true rfl) ?_
  refine G_iload_n dX0_rankOf_0 rfl rfl ?_
  refine G_iconst (v := (nI 1)) dX0_rankOf_1 (by decide) ?_
  refine G_iconst (v := (nI 3)) dX0_rankOf_2 (by decide) ?_
  refine G_callSi (ν := uX9_within) (As := [.inl (nI c), .inl (nI 1), .inl (nI 3)]) dX0_rankOf_3 nX0_32 kX9_within rfl rfl rfl (Nat.le_of_ble_eq_true rfl) (c_within) ?_
  rintro _ M9 ⟨rfl, e9⟩
  subst M9
  rw [inr_nI hc hc3 (by decide)]
  refine Gb_if_eq (tgt := 21) dX0_rankOf_6 (by decide) (fun h6 => ?_) (fun h6 => ?_)
  · exact absurd h6 (by decide)
  · refine G_aload_n dX0_rankOf_9 rfl rfl ?_
    refine G_getR (j := v) dX0_rankOf_10 fX0_11 ho rfl ?_
    refine G_bipush (v := (nI 8)) dX0_rankOf_13 (by decide) ?_
    refine G_iload_n dX0_rankOf_15 rfl rfl ?_
    refine G_iadd (v := (nI (8 + c))) dX0_rankOf_16 (nI_add _ _) ?_
    refine G_iald (k := 8 + c) (v := (M v (8 + c))) dX0_rankOf_17 hv (vp_in_nI (by omega) (by omega)) (nI_clamp (by omega)) rfl ?_
    refine G_goto (tgt := 22) dX0_rankOf_18 (by decide) ?_
    refine G_iret dX0_rankOf_22 rfl rfl ?_
    exact ⟨rfl, rfl⟩
/-- x y names a cell of a cloth of w columns and h rows -/
def hasD (w h : Nat) (x y : Int32) : Bool := decide (nI 0 ≤ x ∧ x ≤ nI (w - 1)) && decide (nI 0 ≤ y ∧ y ≤ nI (h - 1))
theorem c_has {d o v w h : Nat} {x y : Int32} {M : Mem} (ho : SHL[o]? = some (.inl (0, [some v]))) (hv : SHL[v]? = some (.inr (.inl (0, 60)))) (hw : M v 0 = nI w) (hh : M v 1 = nI h) (w1 : 1 ≤ w) (h1 : 1 ≤ h) (w8 : w ≤ 8) (h6 : h ≤ 6) : Call l α D cA uX0_has (d + 1) [.inr o, .inl x, .inl y] M (fun r M1 => r = .inl (bI (hasD w h x y)) ∧ M1 = M) := by
  refine Call.of kX0_has.1 (Nat.le_of_ble_eq_true rfl) ?_
  refine G_iload_n dX0_has_0 rfl rfl ?_
  refine G_iconst (v := (nI 0)) dX0_has_1 (by decide) ?_
  refine G_aload_n dX0_has_2 rfl rfl ?_
  refine G_callVi (ν := uX0_width) (As := []) dX0_has_3 nX0_36 kX0_width ho rfl rfl rfl rfl (Nat.le_of_ble_eq_true rfl) (c_width (o := o) (v := v) ho hv hw) ?_
  rintro _ M9 ⟨rfl, e9⟩
  subst M9
  refine G_iconst (v := (nI 1)) dX0_has_6 (by decide) ?_
  refine G_isub (v := (nI (w - 1))) dX0_has_7 (pk_sub (by omega)) ?_
  refine G_callSi (ν := uX9_within) (As := [.inl x, .inl (nI 0), .inl (nI (w - 1))]) dX0_has_8 nX0_32 kX9_within rfl rfl rfl (Nat.le_of_ble_eq_true rfl) (c_within) ?_
  rintro _ M9 ⟨rfl, e9⟩
  subst M9
  refine Gb_if_eq (tgt := 32) dX0_has_11 (by decide) (fun h11 => ?_) (fun h11 => ?_)
  · refine G_iconst (v := (nI 0)) dX0_has_32 (by decide) ?_
    refine G_iret dX0_has_33 rfl (by decide) ?_
    exact ⟨congrArg Sum.inl (bI_f (by simp only [hasD, h11, h11, Bool.true_and, Bool.false_and, Bool.and_true])), rfl⟩
  · refine G_iload_n dX0_has_14 rfl rfl ?_
    refine G_iconst (v := (nI 0)) dX0_has_15 (by decide) ?_
    refine G_aload_n dX0_has_16 rfl rfl ?_
    refine G_callVi (ν := uX0_height) (As := []) dX0_has_17 nX0_40 kX0_height ho rfl rfl rfl rfl (Nat.le_of_ble_eq_true rfl) (c_height (o := o) (v := v) ho hv hh) ?_
    rintro _ M9 ⟨rfl, e9⟩
    subst M9
    refine G_iconst (v := (nI 1)) dX0_has_20 (by decide) ?_
    refine G_isub (v := (nI (h - 1))) dX0_has_21 (pk_sub (by omega)) ?_
    refine G_callSi (ν := uX9_within) (As := [.inl y, .inl (nI 0), .inl (nI (h - 1))]) dX0_has_22 nX0_32 kX9_within rfl rfl rfl (Nat.le_of_ble_eq_true rfl) (c_within) ?_
    rintro _ M9 ⟨rfl, e9⟩
    subst M9
    refine Gb_if_eq (tgt := 32) dX0_has_25 (by decide) (fun h25 => ?_) (fun h25 => ?_)
    · refine G_iconst (v := (nI 0)) dX0_has_32 (by decide) ?_
      refine G_iret dX0_has_33 rfl (by decide) ?_
      exact ⟨congrArg Sum.inl (bI_f (by simp only [hasD, h11, h25, Bool.true_and, Bool.false_and, Bool.and_true])), rfl⟩
    · refine G_iconst (v := (nI 1)) dX0_has_28 (by decide) ?_
      refine G_goto (tgt := 33) dX0_has_29 (by decide) ?_
      refine G_iret dX0_has_33 rfl (by decide) ?_
      exact ⟨congrArg Sum.inl (bI_t (by simp only [hasD, h11, h25, Bool.true_and, Bool.false_and, Bool.and_true])), rfl⟩
theorem c_colourAt {d o v p : Nat} {g : Nat → Nat} {M : Mem} (ho : SHL[o]? = some (.inl (0, [some v]))) (hv : SHL[v]? = some (.inr (.inl (0, 60)))) (hg : hC g (M v)) (hp : p < 48) : Call l α D cA uX0_colourAt d [.inr o, .inl (nI p)] M (fun r M1 => r = .inl (nI (g (12 + p))) ∧ M1 = M) := by
  refine Call.of kX0_colourAt.1 (Nat.le_of_ble_eq_true rfl) ?_
  refine G_iload_n dX0_colourAt_0 rfl rfl ?_
  refine Gn_if_lt (tgt := 22) dX0_colourAt_1 (by decide) (by omega) (fun h1 => ?_) (fun h1 => ?_)
  · omega
  · refine G_iload_n dX0_colourAt_4 rfl rfl ?_
    refine G_bipush (v := (nI 48)) dX0_colourAt_5 (by decide) ?_
    refine Gn_icmp_ge (tgt := 22) dX0_colourAt_7 (by decide) (by omega) (by omega) (fun h7 => ?_) (fun h7 => ?_)
    · omega
    · refine G_aload_n dX0_colourAt_10 rfl rfl ?_
      refine G_getR (j := v) dX0_colourAt_11 fX0_11 ho rfl ?_
      refine G_bipush (v := (nI 12)) dX0_colourAt_14 (by decide) ?_
      refine G_iload_n dX0_colourAt_16 rfl rfl ?_
      refine G_iadd (v := (nI (12 + p))) dX0_colourAt_17 (nI_add _ _) ?_
      refine G_iald (k := 12 + p) (v := (nI (g (12 + p)))) dX0_colourAt_18 hv (vp_in_nI (by omega) (by omega)) (nI_clamp (by omega)) (hg _ (by omega)) ?_
      refine G_goto (tgt := 23) dX0_colourAt_19 (by decide) ?_
      refine G_iret dX0_colourAt_23 rfl rfl ?_
      exact ⟨rfl, rfl⟩
theorem c_colourNo {d o v : Nat} {M : Mem} (ho : SHL[o]? = some (.inl (0, [some v]))) (hv : SHL[v]? = some (.inr (.inl (0, 60)))) : Call l α D cA uX0_colourAt d [.inr o, .inl (-9)] M (fun r M1 => r = .inl (nI 0) ∧ M1 = M) := by
  refine Call.of kX0_colourAt.1 (Nat.le_of_ble_eq_true rfl) ?_
  refine G_iload_n dX0_colourAt_0 rfl rfl ?_
  refine G_if_lt (tgt := 22) dX0_colourAt_1 (by decide) (fun h1 => ?_) (fun h1 => ?_)
  · refine G_iconst (v := (nI 0)) dX0_colourAt_22 (by decide) ?_
    refine G_iret dX0_colourAt_23 rfl rfl ?_
    exact ⟨rfl, rfl⟩
  · exact absurd (by decide) h1
theorem c_colour {d o v : Nat} {g : Nat → Nat} {q : Option Nat} {M : Mem} (ho : SHL[o]? = some (.inl (0, [some v]))) (hv : SHL[v]? = some (.inr (.inl (0, 60)))) (hg : hC g (M v)) (hq : ∀ p, q = some p → p < 48) : Call l α D cA uX0_colourAt d [.inr o, .inl (oI q)] M (fun r M1 => r = .inl (nI (colr g q)) ∧ M1 = M) := by
  cases q with
  | none => exact c_colourNo ho hv
  | some p => exact c_colourAt ho hv hg (hq p rfl)
theorem c_numberOf {d o v p w : Nat} {M : Mem} (ho : SHL[o]? = some (.inl (0, [some v]))) (hv : SHL[v]? = some (.inr (.inl (0, 60)))) (hw : M v 0 = nI w) (hp : p < 48) (w8 : w ≤ 8) : Call l α D cA uX0_numberOf (d + 1) [.inr o, .inl (nI p)] M (fun r M1 => r = .inl (nI (w * (p / 8) + p % 8)) ∧ M1 = M) := by
  refine Call.of kX0_numberOf.1 (Nat.le_of_ble_eq_true rfl) ?_
  refine G_aload_n dX0_numberOf_0 rfl rfl ?_
  refine G_callVi (ν := uX0_width) (As := []) dX0_numberOf_1 nX0_36 kX0_width ho rfl rfl rfl rfl (Nat.le_of_ble_eq_true rfl) (c_width (o := o) (v := v) ho hv hw) ?_
  rintro _ M9 ⟨rfl, e9⟩
  subst M9
  refine G_iload_n dX0_numberOf_4 rfl rfl ?_
  refine G_bipush (v := (nI 8)) dX0_numberOf_5 (by decide) ?_
  refine G_idiv (v := (nI (p / 8))) dX0_numberOf_7 (nI_ne0 (by omega) (by omega)) (pk_div (by omega) (by omega) (by omega)) ?_
  refine G_imul (v := (nI (w * (p / 8)))) dX0_numberOf_8 (pk_mul _ _) ?_
  refine G_iload_n dX0_numberOf_9 rfl rfl ?_
  refine G_bipush (v := (nI 8)) dX0_numberOf_10 (by decide) ?_
  refine G_irem (v := (nI (p % 8))) dX0_numberOf_12 (nI_ne0 (by omega) (by omega)) (pk_rem (by omega) (by omega) (by omega)) ?_
  refine G_iadd (v := (nI ((w * (p / 8)) + (p % 8)))) dX0_numberOf_13 (nI_add _ _) ?_
  refine G_iret dX0_numberOf_14 rfl rfl ?_
  exact ⟨rfl, rfl⟩
def besd (g : Nat → Nat) (p c : Nat) : Prop := ∃ s, s < 4 ∧ colr g (nbr p s) = c
def tchd (g : Nat → Nat) (a b : Nat) : Prop := ∃ p, p < 48 ∧ g (12 + p) = a ∧ besd g p b
theorem l_isBeside {d o v p c : Nat} {g : Nat → Nat} {M : Mem} (ho : SHL[o]? = some (.inl (0, [some v]))) (hv : SHL[v]? = some (.inr (.inl (0, 60)))) (hg : hC g (M v)) (h9 : g9 g) (hp : p < 48) (hc : c < 2 ^ 31) : ∀ k i : Nat, 4 - i = k → i ≤ 4 → (∀ s, s < i → ¬ colr g (nbr p s) = c) → G l α D cA uX0_isBeside none (d + 1) (fun r M1 => r = .inl (bI (dec (besd g p c))) ∧ M1 = M) 2 [some (.inr o), some (.inl (nI p)), some (.inl (nI c)), some (.inl (nI i))] [] M := by
  intro k
  induction k using Nat.strongRecOn with
  | _ k ih => ?_
  intro i hk hi hno
  refine G_iload_n dX0_isBeside_2 rfl rfl ?_
  refine G_iconst (v := (nI 4)) dX0_isBeside_3 (by decide) ?_
  refine Gn_icmp_ge (tgt := 28) dX0_isBeside_4 (by decide) (by omega) (by omega) (fun h4 => ?_) (fun h4 => ?_)
  · refine G_iconst (v := (nI 0)) dX0_isBeside_28 (by decide) ?_
    refine G_iret dX0_isBeside_29 rfl (by decide) ?_
    exact ⟨congrArg Sum.inl (bI_df (fun ⟨s, h1, h2⟩ => hno s (by omega) h2)), rfl⟩
  · refine G_aload_n dX0_isBeside_7 rfl rfl ?_
    refine G_iload_n dX0_isBeside_8 rfl rfl ?_
    refine G_iload_n dX0_isBeside_9 rfl rfl ?_
    refine G_callSi (ν := uX9_beside) (As := [.inl (nI p), .inl (nI i)]) dX0_isBeside_10 nX0_51 kX9_beside rfl rfl rfl (Nat.le_of_ble_eq_true rfl) (c_beside hp (by omega)) ?_
    rintro _ M9 ⟨rfl, e9⟩
    subst M9
    refine G_callVi (ν := uX0_colourAt) (As := [.inl (oI (nbr p i))]) dX0_isBeside_13 nX0_43 kX0_colourAt ho rfl rfl rfl rfl (Nat.le_of_ble_eq_true rfl) (c_colour (o := o) (v := v) ho hv hg (fun _ h => nbr_lt hp h)) ?_
    rintro _ M9 ⟨rfl, e9⟩
    subst M9
    refine G_iload_n dX0_isBeside_16 rfl rfl ?_
    have hb := colr_nbr (s := i) h9 hp
    refine Gn_icmp_ne (tgt := 22) dX0_isBeside_17 (by decide) (by omega) (by omega) (fun h17 => ?_) (fun h17 => ?_)
    · refine G_iinc (v := (nI (i + 1))) (L2 := [some (.inr o), some (.inl (nI p)), some (.inl (nI c)), some (.inl (nI (i + 1)))]) dX0_isBeside_22 rfl (nI_1 _) rfl ?_
      refine G_goto (tgt := 2) dX0_isBeside_25 (by decide) ?_
      exact ih (4 - (i + 1)) (by omega) (i + 1) rfl (by omega) (fun s hs => by rcases (show s < i ∨ s = i by omega) with q | q; exact hno s q; rw [q]; exact h17)
    · refine G_iconst (v := (nI 1)) dX0_isBeside_20 (by decide) ?_
      refine G_iret dX0_isBeside_21 rfl (by decide) ?_
      exact ⟨congrArg Sum.inl (bI_dt ⟨i, by omega, h17⟩), rfl⟩
theorem c_isBeside {d o v p c : Nat} {g : Nat → Nat} {M : Mem} (ho : SHL[o]? = some (.inl (0, [some v]))) (hv : SHL[v]? = some (.inr (.inl (0, 60)))) (hg : hC g (M v)) (h9 : g9 g) (hp : p < 48) (hc : c < 2 ^ 31) : Call l α D cA uX0_isBeside (d + 1) [.inr o, .inl (nI p), .inl (nI c)] M (fun r M1 => r = .inl (bI (dec (besd g p c))) ∧ M1 = M) := by
  refine Call.of kX0_isBeside.1 (Nat.le_of_ble_eq_true rfl) ?_
  refine G_iconst (v := (nI 0)) dX0_isBeside_0 (by decide) ?_
  refine G_istore_n (L2 := [some (.inr o), some (.inl (nI p)), some (.inl (nI c)), some (.inl (nI 0))]) dX0_isBeside_1 rfl (Nat.le_of_ble_eq_true rfl) rfl ?_
  exact l_isBeside ho hv hg h9 hp hc 4 0 rfl (by omega) (fun s hs => absurd hs (Nat.not_lt_zero _))
theorem l_touch {d o v a b : Nat} {g : Nat → Nat} {M : Mem} (ho : SHL[o]? = some (.inl (0, [some v]))) (hv : SHL[v]? = some (.inr (.inl (0, 60)))) (hg : hC g (M v)) (h9 : g9 g) (ha2 : a < 2 ^ 31) (hb2 : b < 2 ^ 31) : ∀ k i : Nat, 48 - i = k → i ≤ 48 → (∀ p, p < i → ¬ (g (12 + p) = a ∧ besd g p b)) → G l α D cA uX0_touch none (d + 2) (fun r M1 => r = .inl (bI (dec (tchd g a b))) ∧ M1 = M) 2 [some (.inr o), some (.inl (nI a)), some (.inl (nI b)), some (.inl (nI i))] [] M := by
  intro k
  induction k using Nat.strongRecOn with
  | _ k ih => ?_
  intro i hk hi hno
  refine G_iload_n dX0_touch_2 rfl rfl ?_
  refine G_bipush (v := (nI 48)) dX0_touch_3 (by decide) ?_
  refine Gn_icmp_ge (tgt := 34) dX0_touch_5 (by decide) (by omega) (by omega) (fun h5 => ?_) (fun h5 => ?_)
  · refine G_iconst (v := (nI 0)) dX0_touch_34 (by decide) ?_
    refine G_iret dX0_touch_35 rfl (by decide) ?_
    exact ⟨congrArg Sum.inl (bI_df (fun ⟨s, h1, h2⟩ => hno s (by omega) h2)), rfl⟩
  · refine G_aload_n dX0_touch_8 rfl rfl ?_
    refine G_iload_n dX0_touch_9 rfl rfl ?_
    refine G_callVi (ν := uX0_colourAt) (As := [.inl (nI i)]) dX0_touch_10 nX0_43 kX0_colourAt ho rfl rfl rfl rfl (Nat.le_of_ble_eq_true rfl) (c_colourAt (o := o) (v := v) ho hv hg (by omega)) ?_
    rintro _ M9 ⟨rfl, e9⟩
    subst M9
    refine G_iload_n dX0_touch_13 rfl rfl ?_
    have hb := h9 (12 + i) (by omega)
    refine Gn_icmp_ne (tgt := 28) dX0_touch_14 (by decide) (by omega) (by omega) (fun h14 => ?_) (fun h14 => ?_)
    · refine G_iinc (v := (nI (i + 1))) (L2 := [some (.inr o), some (.inl (nI a)), some (.inl (nI b)), some (.inl (nI (i + 1)))]) dX0_touch_28 rfl (nI_1 _) rfl ?_
      refine G_goto (tgt := 2) dX0_touch_31 (by decide) ?_
      exact ih (48 - (i + 1)) (by omega) (i + 1) rfl (by omega) (fun s hs => by rcases (show s < i ∨ s = i by omega) with q | q; exact hno s q; rw [q]; exact fun z => h14 z.1)
    · refine G_aload_n dX0_touch_17 rfl rfl ?_
      refine G_iload_n dX0_touch_18 rfl rfl ?_
      refine G_iload_n dX0_touch_19 rfl rfl ?_
      refine G_callVi (ν := uX0_isBeside) (As := [.inl (nI i), .inl (nI b)]) dX0_touch_20 nX0_47 kX0_isBeside ho rfl rfl rfl rfl (Nat.le_of_ble_eq_true rfl) (c_isBeside (o := o) (v := v) ho hv hg h9 (by omega) hb2) ?_
      rintro _ M9 ⟨rfl, e9⟩
      subst M9
      refine Gb_if_eq (tgt := 28) dX0_touch_23 (by decide) (fun h23 => ?_) (fun h23 => ?_)
      · refine G_iinc (v := (nI (i + 1))) (L2 := [some (.inr o), some (.inl (nI a)), some (.inl (nI b)), some (.inl (nI (i + 1)))]) dX0_touch_28 rfl (nI_1 _) rfl ?_
        refine G_goto (tgt := 2) dX0_touch_31 (by decide) ?_
        exact ih (48 - (i + 1)) (by omega) (i + 1) rfl (by omega) (fun s hs => by rcases (show s < i ∨ s = i by omega) with q | q; exact hno s q; rw [q]; exact fun z => dec_niff.mp h23 z.2)
      · refine G_iconst (v := (nI 1)) dX0_touch_26 (by decide) ?_
        refine G_iret dX0_touch_27 rfl (by decide) ?_
        exact ⟨congrArg Sum.inl (bI_dt ⟨i, by omega, h14, dec_iff.mp h23⟩), rfl⟩
theorem c_touch {d o v a b : Nat} {g : Nat → Nat} {M : Mem} (ho : SHL[o]? = some (.inl (0, [some v]))) (hv : SHL[v]? = some (.inr (.inl (0, 60)))) (hg : hC g (M v)) (h9 : g9 g) (ha2 : a < 2 ^ 31) (hb2 : b < 2 ^ 31) : Call l α D cA uX0_touch (d + 2) [.inr o, .inl (nI a), .inl (nI b)] M (fun r M1 => r = .inl (bI (dec (tchd g a b))) ∧ M1 = M) := by
  refine Call.of kX0_touch.1 (Nat.le_of_ble_eq_true rfl) ?_
  refine G_iconst (v := (nI 0)) dX0_touch_0 (by decide) ?_
  refine G_istore_n (L2 := [some (.inr o), some (.inl (nI a)), some (.inl (nI b)), some (.inl (nI 0))]) dX0_touch_1 rfl (Nat.le_of_ble_eq_true rfl) rfl ?_
  exact l_touch ho hv hg h9 ha2 hb2 48 0 rfl (by omega) (fun s hs => absurd hs (Nat.not_lt_zero _))
theorem c_saveTo {d o v r : Nat} {M : Mem} (ho : SHL[o]? = some (.inl (0, [some v]))) (hv : SHL[v]? = some (.inr (.inl (0, 60)))) (hr : SHL[r]? = some (.inr (.inl (0, 60)))) : Call l α D cA uX0_saveTo (d + 1) [.inr o, .inr r] M (fun _ M1 => M1 = mo M r (va_cpy (M v) (M r) 0 0 60)) := by
  refine Call.of kX0_saveTo.1 (Nat.le_of_ble_eq_true rfl) ?_
  refine G_aload_n dX0_saveTo_0 rfl rfl ?_
  refine G_ifnull dX0_saveTo_1 ?_
  refine G_aload_n dX0_saveTo_4 rfl rfl ?_
  refine G_alen (v := (nI 60)) dX0_saveTo_5 hr (by decide) rfl ?_
  refine G_bipush (v := (nI 60)) dX0_saveTo_6 (by decide) ?_
  refine Gn_icmp_ne (tgt := 23) dX0_saveTo_8 (by decide) (by omega) (by omega) (fun h8 => ?_) (fun h8 => ?_)
  · omega
  · refine G_aload_n dX0_saveTo_11 rfl rfl ?_
    refine G_getR (j := v) dX0_saveTo_12 fX0_11 ho rfl ?_
    refine G_iconst (v := (nI 0)) dX0_saveTo_15 (by decide) ?_
    refine G_aload_n dX0_saveTo_16 rfl rfl ?_
    refine G_iconst (v := (nI 0)) dX0_saveTo_17 (by decide) ?_
    refine G_bipush (v := (nI 60)) dX0_saveTo_18 (by decide) ?_
    refine G_copy (N := 60) dX0_saveTo_20 mX0_59 (Nat.le_of_ble_eq_true rfl) hv hr (by decide) (by decide) (by decide) ?_
    refine G_vret dX0_saveTo_23 rfl ?_
    exact rfl
theorem c_loadFrom {d o v r : Nat} {M : Mem} (ho : SHL[o]? = some (.inl (0, [some v]))) (hv : SHL[v]? = some (.inr (.inl (0, 60)))) (hr : SHL[r]? = some (.inr (.inl (0, 60)))) : Call l α D cA uX0_loadFrom (d + 1) [.inr o, .inr r] M (fun _ M1 => M1 = mo M v (va_cpy (M r) (M v) 0 0 60)) := by
  refine Call.of kX0_loadFrom.1 (Nat.le_of_ble_eq_true rfl) ?_
  refine G_aload_n dX0_loadFrom_0 rfl rfl ?_
  refine G_ifnull dX0_loadFrom_1 ?_
  refine G_aload_n dX0_loadFrom_4 rfl rfl ?_
  refine G_alen (v := (nI 60)) dX0_loadFrom_5 hr (by decide) rfl ?_
  refine G_bipush (v := (nI 60)) dX0_loadFrom_6 (by decide) ?_
  refine Gn_icmp_ne (tgt := 23) dX0_loadFrom_8 (by decide) (by omega) (by omega) (fun h8 => ?_) (fun h8 => ?_)
  · omega
  · refine G_aload_n dX0_loadFrom_11 rfl rfl ?_
    refine G_iconst (v := (nI 0)) dX0_loadFrom_12 (by decide) ?_
    refine G_aload_n dX0_loadFrom_13 rfl rfl ?_
    refine G_getR (j := v) dX0_loadFrom_14 fX0_11 ho rfl ?_
    refine G_iconst (v := (nI 0)) dX0_loadFrom_17 (by decide) ?_
    refine G_bipush (v := (nI 60)) dX0_loadFrom_18 (by decide) ?_
    refine G_copy (N := 60) dX0_loadFrom_20 mX0_59 (Nat.le_of_ble_eq_true rfl) hr hv (by decide) (by decide) (by decide) ?_
    refine G_vret dX0_loadFrom_23 rfl ?_
    exact rfl
theorem c_copy {d o v o2 r : Nat} {M : Mem} (ho : SHL[o]? = some (.inl (0, [some v]))) (hv : SHL[v]? = some (.inr (.inl (0, 60)))) (hr : SHL[r]? = some (.inr (.inl (0, 60)))) (ho2 : SHL[o2]? = some (.inl (0, [some r]))) : Call l α D cA uX0_copy (d + 2) [.inr o, .inr o2] M (fun _ M1 => M1 = mo M v (va_cpy (M r) (M v) 0 0 60)) := by
  refine Call.of kX0_copy.1 (Nat.le_of_ble_eq_true rfl) ?_
  refine G_aload_n dX0_copy_0 rfl rfl ?_
  refine G_aload_n dX0_copy_1 rfl rfl ?_
  refine G_getR (j := r) dX0_copy_2 fX0_11 ho2 rfl ?_
  refine G_callVv (ν := uX0_loadFrom) (As := [.inr r]) dX0_copy_5 nX0_55 kX0_loadFrom ho rfl rfl rfl rfl (Nat.le_of_ble_eq_true rfl) (c_loadFrom (o := o) (v := v) (r := r) ho hv hr) ?_
  rintro _ _ rfl
  refine G_vret dX0_copy_8 rfl ?_
  exact rfl
end P11
