/-! FieldMap (8; its wave 9, 10, 11; fields 12, colours 13, sizes 14, smallest 15, touched 16) -/
section P15
variable {l : Launch} {α : Nat → Nat} {D : va_G} {cA : Nat → ClassId}
/-- what the map's cells hold -/
def MP (g : Nat → Nat) (F : Nat → Option Nat) (n : Nat) (r : Nat → Nat) (M : Mem) : Prop :=
  (∀ q, q < 48 → M 12 q = oI (F q)) ∧ M 8 6 = nI n ∧ M 8 7 = nI (fb_ct (fun q => (F q).isSome) 48) ∧ ∀ f, f < n → M 13 f = nI (g (12 + r f)) ∧ M 14 f = nI (fb_ct (fun q => dec (conn g (r f) q)) 48) ∧ M 15 f = nI (r f)
def FRM (M M1 : Mem) : Prop := ∀ q, (q < 8 ∨ 15 < q) → M1 q = M q
def fpu (f : Nat → Int32) (R : Nat → Nat) (v : Int32) : Nat → (Nat → Int32)
  | 0 => f
  | j + 1 => upd (fpu f R v j) (R j) v
theorem fpu_out {f : Nat → Int32} {R : Nat → Nat} {v : Int32} {q : Nat} : ∀ {j : Nat}, (∀ i, i < j → R i ≠ q) → fpu f R v j q = f q := by
  intro j
  induction j with
  | zero => intro _; rfl
  | succ j ih =>
    intro h
    show upd (fpu f R v j) (R j) v q = f q
    rw [upd_n (fun e => h j (by omega) e.symm)]
    exact ih (fun i hi => h i (by omega))
theorem fpu_in {f : Nat → Int32} {R : Nat → Nat} {v : Int32} {q : Nat} : ∀ {j : Nat}, (∃ i, i < j ∧ R i = q) → fpu f R v j q = v := by
  intro j
  induction j with
  | zero => rintro ⟨i, h, -⟩; exact absurd h (Nat.not_lt_zero _)
  | succ j ih =>
    rintro ⟨i, h, e⟩
    show upd (fpu f R v j) (R j) v q = v
    by_cases z : q = R j
    · rw [z, upd_k]
    · rw [upd_n z]
      exact ih ⟨i, by
        rcases (show i < j ∨ i = j by omega) with y | y
        · exact y
        · subst y
          exact absurd e.symm z, e⟩
theorem oI_some {r : Option Nat} {f : Nat} (hr : ∀ x, r = some x → x < 48) {hf : f < 48} (h : oI r = nI f) : r = some f := by
  cases r with
  | none =>
    have h : (-9 : Int32) = nI f := h
    exact absurd (h ▸ nI_pos (show f < 2 ^ 31 by omega)) (by decide)
  | some x => rw [(nI_eq (by have := hr x rfl; omega) (by omega)).mp h]
/-- the labels with the field of p put as number n -/
noncomputable def labA (g : Nat → Nat) (p n : Nat) (F : Nat → Option Nat) : Nat → Option Nat := fun q => if dec (conn g p q) = true then some n else F q
theorem labA_in {g : Nat → Nat} {p n q : Nat} {F : Nat → Option Nat} (h : conn g p q) : labA g p n F q = some n := if_pos (dec_t h)
theorem labA_out {g : Nat → Nat} {p n q : Nat} {F : Nat → Option Nat} (h : ¬ conn g p q) : labA g p n F q = F q := if_neg (fun z => h (dec_iff.mp z))
theorem labA_ct {g : Nat → Nat} {p n : Nat} {F : Nat → Option Nat} (hno : ∀ q f, F q = some f → ¬ conn g p q) : fb_ct (fun q => (labA g p n F q).isSome) 48 = fb_ct (fun q => (F q).isSome) 48 + fb_ct (fun q => dec (conn g p q)) 48 := by
  rw [← fb_ct_or]
  · refine fb_ct_cong (fun k _ => ?_)
    by_cases z : conn g p k
    · rw [labA_in z, dec_t z]
      simp
    · rw [labA_out z, dec_f z]
      simp
  · rintro k _ ⟨h1, h2⟩
    cases hz : F k with
    | none => simp [hz] at h1
    | some f => exact hno k f hz (dec_iff.mp h2)
theorem LI_no {g : Nat → Nat} {p : Nat} {F : Nat → Option Nat} {n : Nat} {r : Nat → Nat} (h : LI g p F n r) (hp : p < 48) (hn : F p = none) : ∀ q f, F q = some f → ¬ conn g p q := fun q f hq hcn => by
  have hf := h.2.1 q f hq
  have a := ((h.2.2.1 f hf).2.2.1 q).mp hq
  have b := conn_trans a (conn_symm hp hcn)
  have c := ((h.2.2.1 f hf).2.2.1 p).mpr b
  rw [hn] at c
  cases c
theorem WE_ct {g : Nat → Nat} {f n : Nat} {R : Nat → Nat} {T : Nat → Option Nat} (h : WE g f n R T) : fb_ct (fun q => dec (conn g f q)) 48 = n :=
  ct_enum n R _ (fun j hj => ⟨(h.2.2.1 j hj).1, dec_t (h.2.2.1 j hj).2⟩) h.2.2.2.1 (fun q _ hP => h.2.2.2.2.1 q (dec_iff.mp hP))
theorem c_mhas {d n : Nat} {f : Int32} {M : Mem} (hn : M 8 6 = nI n) (n48 : n ≤ 48) : Call l α D cA uX1_has d [.inr 8, .inl f] M (fun r M1 => r = .inl (bI (decide (0 ≤ f ∧ f < nI n))) ∧ M1 = M) := by
  refine Call.of kX1_has.1 (Nat.le_of_ble_eq_true rfl) ?_
  refine G_iload_n dX1_has_0 rfl rfl ?_
  refine G_if_lt (tgt := 16) dX1_has_1 (by decide) (fun h1 => ?_) (fun h1 => ?_)
  · refine G_iconst (v := (nI 0)) dX1_has_16 (by decide) ?_
    refine G_iret dX1_has_17 rfl (by decide) ?_
    exact ⟨congrArg Sum.inl (bI_f (decide_eq_false (by grind))), rfl⟩
  · refine G_iload_n dX1_has_4 rfl rfl ?_
    refine G_aload_n dX1_has_5 rfl rfl ?_
    refine G_getI (v := (nI n)) dX1_has_6 fX1_41 rfl rfl hn ?_
    refine G_icmp_ge (tgt := 16) dX1_has_9 (by decide) (fun h9 => ?_) (fun h9 => ?_)
    · refine G_iconst (v := (nI 0)) dX1_has_16 (by decide) ?_
      refine G_iret dX1_has_17 rfl (by decide) ?_
      exact ⟨congrArg Sum.inl (bI_f (decide_eq_false (by grind))), rfl⟩
    · refine G_iconst (v := (nI 1)) dX1_has_12 (by decide) ?_
      refine G_goto (tgt := 17) dX1_has_13 (by decide) ?_
      refine G_iret dX1_has_17 rfl (by decide) ?_
      exact ⟨congrArg Sum.inl (bI_t (decide_eq_true (by grind))), rfl⟩
theorem c_msize {d : Nat} {x : Int32} {M : Mem} (hM : M 8 6 = x) : Call l α D cA uX1_size d [.inr 8] M (fun r M1 => r = .inl x ∧ M1 = M) := by
  refine Call.of kX1_size.1 (Nat.le_of_ble_eq_true rfl) ?_
  refine G_aload_n dX1_size_0 rfl rfl ?_
  refine G_getI (v := x) dX1_size_1 fX1_41 rfl rfl hM ?_
  refine G_iret dX1_size_4 rfl rfl ?_
  exact ⟨rfl, rfl⟩
theorem c_mcells {d : Nat} {x : Int32} {M : Mem} (hM : M 8 7 = x) : Call l α D cA uX1_cells d [.inr 8] M (fun r M1 => r = .inl x ∧ M1 = M) := by
  refine Call.of kX1_cells.1 (Nat.le_of_ble_eq_true rfl) ?_
  refine G_aload_n dX1_cells_0 rfl rfl ?_
  refine G_getI (v := x) dX1_cells_1 fX1_45 rfl rfl hM ?_
  refine G_iret dX1_cells_4 rfl rfl ?_
  exact ⟨rfl, rfl⟩
theorem c_fieldAt {d i : Nat} {x : Int32} {M : Mem} (hi : i < 48) (hx : M 12 i = x) : Call l α D cA uX1_fieldAt (d + 1) [.inr 8, .inl (nI i)] M (fun r M1 => r = .inl x ∧ M1 = M) := by
  refine Call.of kX1_fieldAt.1 (Nat.le_of_ble_eq_true rfl) ?_
  refine G_aload_n dX1_fieldAt_0 rfl rfl ?_
  refine G_getR (j := 12) dX1_fieldAt_1 fX1_18 rfl rfl ?_
  refine G_iload_n dX1_fieldAt_4 rfl rfl ?_
  refine G_callSi (ν := uX9_at) (As := [.inr 12, .inl (nI i)]) dX1_fieldAt_5 nX1_71 kX9_at rfl rfl rfl (Nat.le_of_ble_eq_true rfl) (c_at (o := 12) (n := 48) rfl (by decide) hi) ?_
  rintro _ M9 ⟨rfl, e9⟩
  subst M9
  refine G_iret dX1_fieldAt_8 rfl rfl ?_
  exact ⟨congrArg Sum.inl hx, rfl⟩
theorem c_colourOf {d i : Nat} {x : Int32} {M : Mem} (hi : i < 48) (hx : M 13 i = x) : Call l α D cA uX1_colourOf (d + 1) [.inr 8, .inl (nI i)] M (fun r M1 => r = .inl x ∧ M1 = M) := by
  refine Call.of kX1_colourOf.1 (Nat.le_of_ble_eq_true rfl) ?_
  refine G_aload_n dX1_colourOf_0 rfl rfl ?_
  refine G_getR (j := 13) dX1_colourOf_1 fX1_22 rfl rfl ?_
  refine G_iload_n dX1_colourOf_4 rfl rfl ?_
  refine G_callSi (ν := uX9_at) (As := [.inr 13, .inl (nI i)]) dX1_colourOf_5 nX1_71 kX9_at rfl rfl rfl (Nat.le_of_ble_eq_true rfl) (c_at (o := 13) (n := 48) rfl (by decide) hi) ?_
  rintro _ M9 ⟨rfl, e9⟩
  subst M9
  refine G_iret dX1_colourOf_8 rfl rfl ?_
  exact ⟨congrArg Sum.inl hx, rfl⟩
theorem c_sizeOf {d i : Nat} {x : Int32} {M : Mem} (hi : i < 48) (hx : M 14 i = x) : Call l α D cA uX1_sizeOf (d + 1) [.inr 8, .inl (nI i)] M (fun r M1 => r = .inl x ∧ M1 = M) := by
  refine Call.of kX1_sizeOf.1 (Nat.le_of_ble_eq_true rfl) ?_
  refine G_aload_n dX1_sizeOf_0 rfl rfl ?_
  refine G_getR (j := 14) dX1_sizeOf_1 fX1_25 rfl rfl ?_
  refine G_iload_n dX1_sizeOf_4 rfl rfl ?_
  refine G_callSi (ν := uX9_at) (As := [.inr 14, .inl (nI i)]) dX1_sizeOf_5 nX1_71 kX9_at rfl rfl rfl (Nat.le_of_ble_eq_true rfl) (c_at (o := 14) (n := 48) rfl (by decide) hi) ?_
  rintro _ M9 ⟨rfl, e9⟩
  subst M9
  refine G_iret dX1_sizeOf_8 rfl rfl ?_
  exact ⟨congrArg Sum.inl hx, rfl⟩
theorem c_smallestOf {d i : Nat} {x : Int32} {M : Mem} (hi : i < 48) (hx : M 15 i = x) : Call l α D cA uX1_smallestOf (d + 1) [.inr 8, .inl (nI i)] M (fun r M1 => r = .inl x ∧ M1 = M) := by
  refine Call.of kX1_smallestOf.1 (Nat.le_of_ble_eq_true rfl) ?_
  refine G_aload_n dX1_smallestOf_0 rfl rfl ?_
  refine G_getR (j := 15) dX1_smallestOf_1 fX1_28 rfl rfl ?_
  refine G_iload_n dX1_smallestOf_4 rfl rfl ?_
  refine G_callSi (ν := uX9_at) (As := [.inr 15, .inl (nI i)]) dX1_smallestOf_5 nX1_71 kX9_at rfl rfl rfl (Nat.le_of_ble_eq_true rfl) (c_at (o := 15) (n := 48) rfl (by decide) hi) ?_
  rintro _ M9 ⟨rfl, e9⟩
  subst M9
  refine G_iret dX1_smallestOf_8 rfl rfl ?_
  exact ⟨congrArg Sum.inl hx, rfl⟩
theorem c_fieldNo {d : Nat} {M : Mem} : Call l α D cA uX1_fieldAt (d + 1) [.inr 8, .inl (-9)] M (fun r M1 => r = .inl (-9) ∧ M1 = M) := by
  refine Call.of kX1_fieldAt.1 (Nat.le_of_ble_eq_true rfl) ?_
  refine G_aload_n dX1_fieldAt_0 rfl rfl ?_
  refine G_getR (j := 12) dX1_fieldAt_1 fX1_18 rfl rfl ?_
  refine G_iload_n dX1_fieldAt_4 rfl rfl ?_
  refine G_callSi (ν := uX9_at) (As := [.inr 12, .inl (-9)]) dX1_fieldAt_5 nX1_71 kX9_at rfl rfl rfl (Nat.le_of_ble_eq_true rfl) (c_at_none) ?_
  rintro _ M9 ⟨rfl, e9⟩
  subst M9
  refine G_iret dX1_fieldAt_8 rfl rfl ?_
  exact ⟨rfl, rfl⟩
theorem l_addField {d p n wn : Nat} {R : Nat → Nat} {T : Nat → Option Nat} {M9 : Mem} {Q : AV → Mem → Prop} (hw : WV M9 9 10 11 wn R T) (hR : ∀ j, j < wn → R j < 48) (hn8 : M9 8 6 = nI n) (hwn : wn ≤ 48)
  (out : G l α D cA uX1_addField none (d + 2) Q 47 [some (.inr 8), some (.inr 1), some (.inl (nI p)), some (.inl (nI wn))] [] (mo M9 12 (fpu (M9 12) R (nI n) wn))) : ∀ k j : Nat, wn - j = k → j ≤ wn → G l α D cA uX1_addField none (d + 2) Q 11 [some (.inr 8), some (.inr 1), some (.inl (nI p)), some (.inl (nI j))] [] (mo M9 12 (fpu (M9 12) R (nI n) j)) := by
  intro k
  induction k using Nat.strongRecOn with
  | _ k ih => ?_
  intro j hk hj
  refine G_iload_n dX1_addField_11 rfl rfl ?_
  refine G_aload_n dX1_addField_12 rfl rfl ?_
  refine G_getR (j := 9) dX1_addField_13 fX1_12 rfl rfl ?_
  refine G_callVi (ν := uX8_size) (As := []) dX1_addField_16 nX1_61 kX8_size rfl rfl rfl rfl rfl (Nat.le_of_ble_eq_true rfl) (c_wsize_m (x := nI wn) (by simp [mo, hw.1])) ?_
  rintro _ M8 ⟨rfl, e9⟩
  subst M8
  refine Gn_icmp_ge (tgt := 47) dX1_addField_19 (by decide) (by omega) (by omega) (fun h19 => ?_) (fun h19 => ?_)
  · have e : j = wn := by omega
    subst e
    exact out
  · refine G_aload_n dX1_addField_22 rfl rfl ?_
    refine G_getR (j := 12) dX1_addField_23 fX1_18 rfl rfl ?_
    refine G_aload_n dX1_addField_26 rfl rfl ?_
    refine G_getR (j := 9) dX1_addField_27 fX1_12 rfl rfl ?_
    refine G_iload_n dX1_addField_30 rfl rfl ?_
    refine G_callVi (ν := uX8_place) (As := [.inl (nI j)]) dX1_addField_31 nX1_64 kX8_place rfl rfl rfl rfl rfl (Nat.le_of_ble_eq_true rfl) (c_place_m (i := j) (by omega)) ?_
    rintro _ M8 ⟨rfl, e9⟩
    subst M8
    rw [mo_q (show (10 : Nat) ≠ 12 by decide), hw.2.1 j (by omega)]
    refine G_aload_n dX1_addField_34 rfl rfl ?_
    refine G_getI (v := (nI n)) dX1_addField_35 fX1_41 rfl rfl (by simp [mo, hn8]) ?_
    refine G_callSv (ν := uX9_put) (As := [.inr 12, .inl (nI ((R j))), .inl (nI n)]) dX1_addField_38 nX1_67 kX9_put rfl rfl rfl (Nat.le_of_ble_eq_true rfl) (c_put (o := 12) (n := 48) rfl (by decide) (hR j (by omega))) ?_
    rintro _ M8 e9
    subst M8
    refine G_iinc (v := (nI (j + 1))) (L2 := [some (.inr 8), some (.inr 1), some (.inl (nI p)), some (.inl (nI (j + 1)))]) dX1_addField_41 rfl (nI_1 _) rfl ?_
    refine G_goto (tgt := 11) dX1_addField_44 (by decide) ?_
    rw [mo_o, mo_mo]
    exact ih (wn - (j + 1)) (by omega) (j + 1) rfl (by omega)
theorem c_addField {d p n : Nat} {F : Nat → Option Nat} {r : Nat → Nat} {g : Nat → Nat} {M : Mem} (hg : hC g (M 2)) (h9 : g9 g) (hp : p < 48) (hc0 : g (12 + p) ≠ 0) (hM : MP g F n r M) (hL : LI g p F n r) (hno : F p = none) : Call l α D cA uX1_addField (d + 2) [.inr 8, .inr 1, .inl (nI p)] M (fun _ M1 => FRM M M1 ∧ MP g (labA g p n F) (n + 1) (updN r n p) M1) := by
  refine Call.of kX1_addField.1 (Nat.le_of_ble_eq_true rfl) ?_
  refine G_aload_n dX1_addField_0 rfl rfl ?_
  refine G_getR (j := 9) dX1_addField_1 fX1_12 rfl rfl ?_
  refine G_aload_n dX1_addField_4 rfl rfl ?_
  refine G_iload_n dX1_addField_5 rfl rfl ?_
  refine G_callVv (ν := uX8_spread) (As := [.inr 1, .inl (nI p)]) dX1_addField_6 nX1_58 kX8_spread rfl rfl rfl rfl rfl (Nat.le_of_ble_eq_true rfl) (c_spread_m hg h9 hp hc0) ?_
  rintro _ M9 ⟨hFr, wn, R, T, hw, hE⟩
  have hn := hL.1
  have hwn := hE.2.1
  have e8 : M9 8 = M 8 := hFr 8 (by decide) (by decide) (by decide)
  have e2 : M9 2 = M 2 := hFr 2 (by decide) (by decide) (by decide)
  refine G_iconst (v := (nI 0)) dX1_addField_9 (by decide) ?_
  refine G_istore_n (L2 := [some (.inr 8), some (.inr 1), some (.inl (nI p)), some (.inl (nI 0))]) dX1_addField_10 rfl (Nat.le_of_ble_eq_true rfl) rfl ?_
  refine l_addField (wn := wn) hw (fun j hj => (hE.2.2.1 j hj).1) (by rw [e8]; exact hM.2.1) hwn ?_ wn 0 rfl (Nat.zero_le _) |> (fun h => by have e : mo M9 12 (fpu (M9 12) R (nI n) 0) = M9 := mo_self; rw [e] at h; exact h)
  obtain ⟨M2, hM2⟩ : ∃ M2, M2 = mo M9 12 (fpu (M9 12) R (nI n) wn) := ⟨_, rfl⟩
  rw [← hM2]
  have h86 : M2 8 6 = nI n := by rw [hM2, mo_q (show (8 : Nat) ≠ 12 by decide), e8]; exact hM.2.1
  have h87 : M2 8 7 = nI (fb_ct (fun q => (F q).isSome) 48) := by rw [hM2, mo_q (show (8 : Nat) ≠ 12 by decide), e8]; exact hM.2.2.1
  have hcc := fb_ct_le (fun q => (F q).isSome) 48
  refine G_aload_n dX1_addField_47 rfl rfl ?_
  refine G_getR (j := 13) dX1_addField_48 fX1_22 rfl rfl ?_
  refine G_aload_n dX1_addField_51 rfl rfl ?_
  refine G_getI (v := (nI n)) dX1_addField_52 fX1_41 rfl rfl h86 ?_
  refine G_aload_n dX1_addField_55 rfl rfl ?_
  refine G_iload_n dX1_addField_56 rfl rfl ?_
  refine G_callVi (ν := uX0_colourAt) (As := [.inl (nI p)]) dX1_addField_57 nX1_48 kX0_colourAt rfl rfl rfl rfl rfl (Nat.le_of_ble_eq_true rfl) (c_colourAt (o := 1) (v := 2) (g := g) rfl rfl (by rw [hM2, mo_q (show (2 : Nat) ≠ 12 by decide), e2]; exact hg) hp) ?_
  rintro _ M8 ⟨rfl, e9⟩
  subst M8
  refine G_callSv (ν := uX9_put) (As := [.inr 13, .inl (nI n), .inl (nI (g (12 + p)))]) dX1_addField_60 nX1_67 kX9_put rfl rfl rfl (Nat.le_of_ble_eq_true rfl) (c_put (o := 13) (n := 48) rfl (by decide) (by omega)) ?_
  rintro _ M8 e9
  subst M8
  refine G_aload_n dX1_addField_63 rfl rfl ?_
  refine G_getR (j := 14) dX1_addField_64 fX1_25 rfl rfl ?_
  refine G_aload_n dX1_addField_67 rfl rfl ?_
  refine G_getI (v := (nI n)) dX1_addField_68 fX1_41 rfl rfl (by simp [mo, h86]) ?_
  refine G_aload_n dX1_addField_71 rfl rfl ?_
  refine G_getR (j := 9) dX1_addField_72 fX1_12 rfl rfl ?_
  refine G_callVi (ν := uX8_size) (As := []) dX1_addField_75 nX1_61 kX8_size rfl rfl rfl rfl rfl (Nat.le_of_ble_eq_true rfl) (c_wsize_m (x := nI wn) (by simp [mo, hw.1, hM2])) ?_
  rintro _ M8 ⟨rfl, e9⟩
  subst M8
  refine G_callSv (ν := uX9_put) (As := [.inr 14, .inl (nI n), .inl (nI wn)]) dX1_addField_78 nX1_67 kX9_put rfl rfl rfl (Nat.le_of_ble_eq_true rfl) (c_put (o := 14) (n := 48) rfl (by decide) (by omega)) ?_
  rintro _ M8 e9
  subst M8
  refine G_aload_n dX1_addField_81 rfl rfl ?_
  refine G_getR (j := 15) dX1_addField_82 fX1_28 rfl rfl ?_
  refine G_aload_n dX1_addField_85 rfl rfl ?_
  refine G_getI (v := (nI n)) dX1_addField_86 fX1_41 rfl rfl (by simp [mo, h86]) ?_
  refine G_iload_n dX1_addField_89 rfl rfl ?_
  refine G_callSv (ν := uX9_put) (As := [.inr 15, .inl (nI n), .inl (nI p)]) dX1_addField_90 nX1_67 kX9_put rfl rfl rfl (Nat.le_of_ble_eq_true rfl) (c_put (o := 15) (n := 48) rfl (by decide) (by omega)) ?_
  rintro _ M8 e9
  subst M8
  refine G_aload_n dX1_addField_93 rfl rfl ?_
  refine G_dup dX1_addField_94 ?_
  refine G_getI (v := (nI (fb_ct (fun q => (F q).isSome) 48))) dX1_addField_95 fX1_45 rfl rfl (by simp [mo, h87]) ?_
  refine G_aload_n dX1_addField_98 rfl rfl ?_
  refine G_getR (j := 9) dX1_addField_99 fX1_12 rfl rfl ?_
  refine G_callVi (ν := uX8_size) (As := []) dX1_addField_102 nX1_61 kX8_size rfl rfl rfl rfl rfl (Nat.le_of_ble_eq_true rfl) (c_wsize_m (x := nI wn) (by simp [mo, hw.1, hM2])) ?_
  rintro _ M8 ⟨rfl, e9⟩
  subst M8
  refine G_iadd (v := (nI ((fb_ct (fun q => (F q).isSome) 48) + wn))) dX1_addField_105 (nI_add _ _) ?_
  refine G_put dX1_addField_106 pX1_45 rfl rfl ?_
  refine G_aload_n dX1_addField_109 rfl rfl ?_
  refine G_dup dX1_addField_110 ?_
  refine G_getI (v := (nI n)) dX1_addField_111 fX1_41 rfl rfl (by simp [mo, ms, upd, h86]) ?_
  refine G_iconst (v := (nI 1)) dX1_addField_114 (by decide) ?_
  refine G_iadd (v := (nI (n + 1))) dX1_addField_115 (nI_add _ _) ?_
  refine G_put dX1_addField_116 pX1_41 rfl rfl ?_
  refine G_vret dX1_addField_119 rfl ?_
  have hnn := LI_no hL hp hno
  refine ⟨fun q hq => ?_, fun q hq => ?_, ?_, ?_, fun f hf => ?_⟩
  · simp only [ms, mo, if_neg (show q ≠ 8 by omega), if_neg (show q ≠ 13 by omega), if_neg (show q ≠ 14 by omega), if_neg (show q ≠ 15 by omega), hM2, if_neg (show q ≠ 12 by omega)]
    exact hFr q (by omega) (by omega) (by omega)
  · simp [ms, mo, hM2]
    by_cases z : conn g p q
    · rw [labA_in z, fpu_in (hE.2.2.2.2.1 q z)]
      rfl
    · rw [labA_out z, fpu_out (fun i hi e => z (by rw [← e]; exact (hE.2.2.1 i hi).2)), hFr 12 (by decide) (by decide) (by decide)]
      exact hM.1 q hq
  · simp [ms, upd]
  · simp [ms, upd]
    rw [labA_ct hnn, WE_ct hE]
  · have e3 : ∀ x, 12 < x → x ≠ 12 → M2 x = M x := fun x h1 h2 => by rw [hM2, mo_q h2]; exact hFr x (by omega) (by omega) (by omega)
    rcases (show f < n ∨ f = n by omega) with z | z
    · rw [updN_n (by omega)]
      simp [ms, mo, upd, show f ≠ n by omega, e3]
      exact hM.2.2.2 f z
    · subst z
      rw [updN_k, WE_ct hE]
      simp [ms, mo, upd]
theorem l_number {d : Nat} {g : Nat → Nat} {M : Mem} (hg : hC g (M 2)) (h9 : g9 g) : ∀ (k p : Nat) (M1 : Mem), 48 - p = k → p ≤ 48 → FRM M M1 → MP g (lab g p).1 (lab g p).2.1 (lab g p).2.2 M1 → G l α D cA uX1_number none (d + 3) (fun _ M1 => FRM M M1 ∧ MP g (labF g) (labN g) (labR g) M1) 21 [some (.inr 8), some (.inr 1), some (.inl (nI p))] [] M1 := by
  intro k
  induction k using Nat.strongRecOn with
  | _ k ih => ?_
  intro p M1 hk hp hF hM
  have e2 : M1 2 = M 2 := hF 2 (by decide)
  have hL := lab_inv g p hp
  refine G_iload_n dX1_number_21 rfl rfl ?_
  refine G_bipush (v := (nI 48)) dX1_number_22 (by decide) ?_
  refine Gn_icmp_ge (tgt := 58) dX1_number_24 (by decide) (by omega) (by omega) (fun h24 => ?_) (fun h24 => ?_)
  · refine G_vret dX1_number_58 rfl ?_
    have e : p = 48 := by omega
    subst e
    exact ⟨hF, hM⟩
  · refine G_aload_n dX1_number_27 rfl rfl ?_
    refine G_iload_n dX1_number_28 rfl rfl ?_
    refine G_callVi (ν := uX0_colourAt) (As := [.inl (nI p)]) dX1_number_29 nX1_48 kX0_colourAt rfl rfl rfl rfl rfl (Nat.le_of_ble_eq_true rfl) (c_colourAt (o := 1) (v := 2) (g := g) rfl rfl (by rw [e2]; exact hg) (by omega)) ?_
    rintro _ M8 ⟨rfl, e9⟩
    subst M8
    have hb := h9 (12 + p) (by omega)
    refine Gn_if_eq (tgt := 52) dX1_number_32 (by decide) (by omega) (fun h32 => ?_) (fun h32 => ?_)
    · refine G_iinc (v := (nI (p + 1))) (L2 := [some (.inr 8), some (.inr 1), some (.inl (nI (p + 1)))]) dX1_number_52 rfl (nI_1 _) rfl ?_
      refine G_goto (tgt := 21) dX1_number_55 (by decide) ?_
      exact ih (48 - (p + 1)) (by omega) (p + 1) M1 rfl (by omega) hF (by rw [lab_old (fun z => z.1 h32)]; exact hM)
    · refine G_aload_n dX1_number_35 rfl rfl ?_
      refine G_getR (j := 12) dX1_number_36 fX1_18 rfl rfl ?_
      refine G_iload_n dX1_number_39 rfl rfl ?_
      refine G_iald (k := p) (v := (oI ((lab g p).1 p))) dX1_number_40 rfl (vp_in_nI (by omega) (by omega)) (nI_clamp (by omega)) (hM.1 p (by omega)) ?_
      refine G_bipush (v := ((-9))) dX1_number_41 (by decide) ?_
      refine G_icmp_ne (tgt := 52) dX1_number_43 (by decide) (fun h43 => ?_) (fun h43 => ?_)
      · refine G_iinc (v := (nI (p + 1))) (L2 := [some (.inr 8), some (.inr 1), some (.inl (nI (p + 1)))]) dX1_number_52 rfl (nI_1 _) rfl ?_
        refine G_goto (tgt := 21) dX1_number_55 (by decide) ?_
        exact ih (48 - (p + 1)) (by omega) (p + 1) M1 rfl (by omega) hF (by rw [lab_old (fun z => h43 (by rw [z.2]; rfl))]; exact hM)
      · have hno : (lab g p).1 p = none := (oI_none (fun t ht => by have := hL.2.1 p t ht; have := hL.1; omega)).mp h43
        refine G_aload_n dX1_number_46 rfl rfl ?_
        refine G_aload_n dX1_number_47 rfl rfl ?_
        refine G_iload_n dX1_number_48 rfl rfl ?_
        refine G_callVv (ν := uX1_addField) (As := [.inr 1, .inl (nI p)]) dX1_number_49 nX1_54 kX1_addField rfl rfl rfl rfl rfl (Nat.le_of_ble_eq_true rfl) (c_addField (by rw [e2]; exact hg) h9 (by omega) h32 hM hL hno) ?_
        rintro _ M8 ⟨hF8, hM8⟩
        have en := lab_new h32 hno
        refine G_iinc (v := (nI (p + 1))) (L2 := [some (.inr 8), some (.inr 1), some (.inl (nI (p + 1)))]) dX1_number_52 rfl (nI_1 _) rfl ?_
        refine G_goto (tgt := 21) dX1_number_55 (by decide) ?_
        exact ih (48 - (p + 1)) (by omega) (p + 1) M8 rfl (by omega) (fun q hq => (hF8 q hq).trans (hF q hq)) (by rw [en]; exact hM8)
theorem c_number {d : Nat} {g : Nat → Nat} {M : Mem} (hg : hC g (M 2)) (h9 : g9 g) : Call l α D cA uX1_number (d + 3) [.inr 8, .inr 1] M (fun _ M1 => FRM M M1 ∧ MP g (labF g) (labN g) (labR g) M1) := by
  refine Call.of kX1_number.1 (Nat.le_of_ble_eq_true rfl) ?_
  refine G_aload_n dX1_number_0 rfl rfl ?_
  refine G_getR (j := 12) dX1_number_1 fX1_18 rfl rfl ?_
  refine G_bipush (v := ((-9))) dX1_number_4 (by decide) ?_
  refine G_callSv (ν := uJ7_fill_53178) (As := [.inr 12, .inl (-9)]) dX1_number_6 nX1_35 kJ7_fill_53178 rfl rfl rfl (Nat.le_of_ble_eq_true rfl) (c_fill (o := 12) (n := 48) rfl (by decide)) ?_
  rintro _ M9 e9
  subst M9
  refine G_aload_n dX1_number_9 rfl rfl ?_
  refine G_iconst (v := (nI 0)) dX1_number_10 (by decide) ?_
  refine G_put dX1_number_11 pX1_41 rfl rfl ?_
  refine G_aload_n dX1_number_14 rfl rfl ?_
  refine G_iconst (v := (nI 0)) dX1_number_15 (by decide) ?_
  refine G_put dX1_number_16 pX1_45 rfl rfl ?_
  refine G_iconst (v := (nI 0)) dX1_number_19 (by decide) ?_
  refine G_istore_n (L2 := [some (.inr 8), some (.inr 1), some (.inl (nI 0))]) dX1_number_20 rfl (Nat.le_of_ble_eq_true rfl) rfl ?_
  refine l_number hg h9 48 0 _ rfl (by omega) ?_ ?_
  · intro q hq
    simp [ms, mo, show q ≠ 8 by omega, show q ≠ 12 by omega]
  · refine ⟨fun q hq => ?_, by simp [ms, upd]; rfl, ?_, fun f hf => absurd hf (Nat.not_lt_zero _)⟩
    · simp [ms, mo, fil, hq]
      rfl
    · simp [ms, upd]
      rw [fb_ct_zero.mpr (fun k _ => by rfl)]
def mkd (F : Nat → Option Nat) (f p s x : Nat) : Prop := x ≠ f ∧ ∃ s', s' < s ∧ ∃ q, nbr p s' = some q ∧ F q = some x
theorem mkd_s {F : Nat → Option Nat} {f p s x : Nat} : mkd F f p (s + 1) x ↔ mkd F f p s x ∨ (x ≠ f ∧ (nbr p s).bind F = some x) := by
  constructor
  · rintro ⟨h1, s', h2, q, h3, h4⟩
    rcases (show s' < s ∨ s' = s by omega) with z | z
    · exact Or.inl ⟨h1, s', z, q, h3, h4⟩
    · subst z
      exact Or.inr ⟨h1, by rw [h3]; exact h4⟩
  · rintro (⟨h1, s', h2, h3⟩ | ⟨h1, h2⟩)
    · exact ⟨h1, s', by omega, h3⟩
    · cases hz : nbr p s with
      | none => rw [hz] at h2; cases h2
      | some q => rw [hz] at h2; exact ⟨h1, s, by omega, q, hz, h2⟩
theorem mkd_0 {F : Nat → Option Nat} {f p x : Nat} : ¬ mkd F f p 0 x := fun ⟨_, s, h, _⟩ => Nat.not_lt_zero _ h
theorem c_fieldO {d : Nat} {F : Nat → Option Nat} {q : Option Nat} {M : Mem} (hM : ∀ q, q < 48 → M 12 q = oI (F q)) (hq : ∀ p, q = some p → p < 48) : Call l α D cA uX1_fieldAt (d + 1) [.inr 8, .inl (oI q)] M (fun r M1 => r = .inl (oI (q.bind F)) ∧ M1 = M) := by
  cases q with
  | none => exact c_fieldNo
  | some p => exact c_fieldAt (hq p rfl) (hM p (hq p rfl))
theorem l_mark {d p f : Nat} {F : Nat → Option Nat} {P : Nat → Prop} {M : Mem} (hM : ∀ q, q < 48 → M 12 q = oI (F q)) (hF : ∀ q x, F q = some x → x < 48) (hp : p < 48) (hf : f < 48) : ∀ (k s : Nat) (b : Nat → Int32) (x : Option AV), 4 - s = k → s ≤ 4 → (∀ x, x < 48 → b x = bI (dec (P x ∨ mkd F f p s x))) → G l α D cA uX1_markBeside none (d + 2) (fun _ M1 => ∃ b1, M1 = mo M 16 b1 ∧ ∀ x, x < 48 → b1 x = bI (dec (P x ∨ mkd F f p 4 x))) 2 [some (.inr 8), some (.inl (nI p)), some (.inl (nI f)), some (.inl (nI s)), x] [] (mo M 16 b) := by
  intro k
  induction k using Nat.strongRecOn with
  | _ k ih => ?_
  intro s b x hk hs hb
  refine G_iload_n dX1_markBeside_2 rfl rfl ?_
  refine G_iconst (v := (nI 4)) dX1_markBeside_3 (by decide) ?_
  refine Gn_icmp_ge (tgt := 50) dX1_markBeside_4 (by decide) (by omega) (by omega) (fun h4 => ?_) (fun h4 => ?_)
  · refine G_vret dX1_markBeside_50 rfl ?_
    have e : s = 4 := by omega
    subst e
    exact ⟨b, rfl, hb⟩
  · refine G_aload_n dX1_markBeside_7 rfl rfl ?_
    refine G_iload_n dX1_markBeside_8 rfl rfl ?_
    refine G_iload_n dX1_markBeside_9 rfl rfl ?_
    refine G_callSi (ν := uX9_beside) (As := [.inl (nI p), .inl (nI s)]) dX1_markBeside_10 nX1_87 kX9_beside rfl rfl rfl (Nat.le_of_ble_eq_true rfl) (c_beside hp (by omega)) ?_
    rintro _ M9 ⟨rfl, e9⟩
    subst M9
    refine G_callVi (ν := uX1_fieldAt) (As := [.inl (oI (nbr p s))]) dX1_markBeside_13 nX1_91 kX1_fieldAt rfl rfl rfl rfl rfl (Nat.le_of_ble_eq_true rfl) (c_fieldO (F := F) (fun q hq => by rw [mo_q (show (12 : Nat) ≠ 16 by decide)]; exact hM q hq) (fun _ h => nbr_lt hp h)) ?_
    rintro _ M9 ⟨rfl, e9⟩
    subst M9
    rcases hz : (nbr p s).bind F with _ | y
    · skip
      refine G_istore (L2 := [some (.inr 8), some (.inl (nI p)), some (.inl (nI f)), some (.inl (nI s)), some (.inl (oI none))]) dX1_markBeside_16 (Nat.le_of_ble_eq_true rfl) rfl ?_
      refine G_iload dX1_markBeside_18 rfl ?_
      refine G_if_lt (tgt := 44) dX1_markBeside_20 (by decide) (fun h20 => ?_) (fun h20 => ?_)
      · refine G_iinc (v := (nI (s + 1))) (L2 := [some (.inr 8), some (.inl (nI p)), some (.inl (nI f)), some (.inl (nI (s + 1))), some (.inl (oI none))]) dX1_markBeside_44 rfl (nI_1 _) rfl ?_
        refine G_goto (tgt := 2) dX1_markBeside_47 (by decide) ?_
        exact ih (4 - (s + 1)) (by omega) (s + 1) b _ rfl (by omega) (fun x hx => by rw [hb x hx]; exact congrArg bI (dec_eq ⟨fun z => z.elim Or.inl (fun y => Or.inr (mkd_s.mpr (Or.inl y))), fun z => z.elim Or.inl (fun y => (mkd_s.mp y).elim Or.inr (fun w => by rw [hz] at w; cases w.2))⟩))
      · exact absurd (by decide) h20
    · have hy : y < 48 := by
        cases hq : nbr p s with
        | none => rw [hq] at hz; cases hz
        | some q => rw [hq] at hz; exact hF q y hz
      rw [show oI (some y) = nI y from rfl]
      refine G_istore (L2 := [some (.inr 8), some (.inl (nI p)), some (.inl (nI f)), some (.inl (nI s)), some (.inl (nI y))]) dX1_markBeside_16 (Nat.le_of_ble_eq_true rfl) rfl ?_
      refine G_iload dX1_markBeside_18 rfl ?_
      refine Gn_if_lt (tgt := 44) dX1_markBeside_20 (by decide) (by omega) (fun h20 => ?_) (fun h20 => ?_)
      · omega
      · refine G_iload dX1_markBeside_23 rfl ?_
        refine G_bipush (v := (nI 48)) dX1_markBeside_25 (by decide) ?_
        refine Gn_icmp_ge (tgt := 44) dX1_markBeside_27 (by decide) (by omega) (by omega) (fun h27 => ?_) (fun h27 => ?_)
        · omega
        · refine G_iload dX1_markBeside_30 rfl ?_
          refine G_iload_n dX1_markBeside_32 rfl rfl ?_
          refine Gn_icmp_eq (tgt := 44) dX1_markBeside_33 (by decide) (by omega) (by omega) (fun h33 => ?_) (fun h33 => ?_)
          · refine G_iinc (v := (nI (s + 1))) (L2 := [some (.inr 8), some (.inl (nI p)), some (.inl (nI f)), some (.inl (nI (s + 1))), some (.inl (nI y))]) dX1_markBeside_44 rfl (nI_1 _) rfl ?_
            refine G_goto (tgt := 2) dX1_markBeside_47 (by decide) ?_
            exact ih (4 - (s + 1)) (by omega) (s + 1) b _ rfl (by omega) (fun x hx => by rw [hb x hx]; exact congrArg bI (dec_eq ⟨fun z => z.elim Or.inl (fun y => Or.inr (mkd_s.mpr (Or.inl y))), fun z => z.elim Or.inl (fun y => (mkd_s.mp y).elim Or.inr (fun w => by rw [hz] at w; cases w.2; exact absurd h33 w.1))⟩))
          · refine G_aload_n dX1_markBeside_36 rfl rfl ?_
            refine G_getR (j := 16) dX1_markBeside_37 fX1_31 rfl rfl ?_
            refine G_iload dX1_markBeside_40 rfl ?_
            refine G_iconst (v := (nI 1)) dX1_markBeside_42 (by decide) ?_
            refine G_zast (k := y) (v := (nI 1)) dX1_markBeside_43 rfl (vp_in_nI (by omega) (by omega)) (nI_clamp (by omega)) (by decide) ?_
            refine G_iinc (v := (nI (s + 1))) (L2 := [some (.inr 8), some (.inl (nI p)), some (.inl (nI f)), some (.inl (nI (s + 1))), some (.inl (nI y))]) dX1_markBeside_44 rfl (nI_1 _) rfl ?_
            refine G_goto (tgt := 2) dX1_markBeside_47 (by decide) ?_
            rw [ms_mo, mo_o, mo_mo]
            exact ih (4 - (s + 1)) (by omega) (s + 1) _ _ rfl (by omega) (fun x hx => by
              unfold upd
              by_cases e : x = y
              · rw [if_pos e]
                exact bI_dt (Or.inr (mkd_s.mpr (Or.inr ⟨by rw [e]; exact h33, by rw [hz, e]⟩)))
              · rw [if_neg e, hb x hx]
                exact congrArg bI (dec_eq ⟨fun z => z.elim Or.inl (fun w => Or.inr (mkd_s.mpr (Or.inl w))), fun z => z.elim Or.inl (fun w => (mkd_s.mp w).elim Or.inr (fun u => by rw [hz] at u; cases u.2; exact absurd rfl e))⟩))
theorem c_mark {d p f : Nat} {F : Nat → Option Nat} {P : Nat → Prop} {M : Mem} (hM : ∀ q, q < 48 → M 12 q = oI (F q)) (hF : ∀ q x, F q = some x → x < 48) (hp : p < 48) (hf : f < 48) (hb : ∀ x, x < 48 → M 16 x = bI (dec (P x))) : Call l α D cA uX1_markBeside (d + 2) [.inr 8, .inl (nI p), .inl (nI f)] M (fun _ M1 => ∃ b1, M1 = mo M 16 b1 ∧ ∀ x, x < 48 → b1 x = bI (dec (P x ∨ mkd F f p 4 x))) := by
  refine Call.of kX1_markBeside.1 (Nat.le_of_ble_eq_true rfl) ?_
  refine G_iconst (v := (nI 0)) dX1_markBeside_0 (by decide) ?_
  refine G_istore_n (L2 := [some (.inr 8), some (.inl (nI p)), some (.inl (nI f)), some (.inl (nI 0)), none]) dX1_markBeside_1 rfl (Nat.le_of_ble_eq_true rfl) rfl ?_
  have h := l_mark (l := l) (α := α) (D := D) (cA := cA) (d := d) (P := P) hM hF hp hf 4 0 (M 16) none rfl (by omega) (fun x hx => by rw [hb x hx, dec_eq (Iff.intro Or.inl (fun z => z.elim id (fun y => absurd y mkd_0)))])
  rw [mo_self] at h
  exact h
/-- fields f and x lie beside one another -/
def tchF (F : Nat → Option Nat) (f x : Nat) : Prop := ∃ p, p < 48 ∧ F p = some f ∧ mkd F f p 4 x
def tchP (F : Nat → Option Nat) (f k x : Nat) : Prop := ∃ p, p < k ∧ F p = some f ∧ mkd F f p 4 x
theorem tchP_s {F : Nat → Option Nat} {f k x : Nat} : tchP F f (k + 1) x ↔ tchP F f k x ∨ (F k = some f ∧ mkd F f k 4 x) := by
  constructor
  · rintro ⟨p, h1, h2⟩
    rcases (show p < k ∨ p = k by omega) with z | z
    · exact Or.inl ⟨p, z, h2⟩
    · subst z
      exact Or.inr h2
  · rintro (⟨p, h1, h2⟩ | h)
    · exact ⟨p, by omega, h2⟩
    · exact ⟨k, by omega, h⟩
theorem l_touching {d f : Nat} {F : Nat → Option Nat} {M : Mem} (hM : ∀ q, q < 48 → M 12 q = oI (F q)) (hF : ∀ q x, F q = some x → x < 48) (hf : f < 48) : ∀ (k p : Nat) (b : Nat → Int32), 48 - p = k → p ≤ 48 → (∀ x, x < 48 → b x = bI (dec (tchP F f p x))) → G l α D cA uX1_touching none (d + 3) (fun r M1 => r = .inl (nI (fb_ct (fun x => dec (tchF F f x)) 48)) ∧ ∃ b, M1 = mo M 16 b) 9 [some (.inr 8), some (.inl (nI f)), some (.inl (nI p))] [] (mo M 16 b) := by
  intro k
  induction k using Nat.strongRecOn with
  | _ k ih => ?_
  intro p b hk hp hb
  refine G_iload_n dX1_touching_9 rfl rfl ?_
  refine G_bipush (v := (nI 48)) dX1_touching_10 (by decide) ?_
  refine Gn_icmp_ge (tgt := 37) dX1_touching_12 (by decide) (by omega) (by omega) (fun h12 => ?_) (fun h12 => ?_)
  · refine G_aload_n dX1_touching_37 rfl rfl ?_
    refine G_getR (j := 16) dX1_touching_38 fX1_31 rfl rfl ?_
    refine G_callSi (ν := uX9_countTrue) (As := [.inr 16]) dX1_touching_41 nX1_83 kX9_countTrue rfl rfl rfl (Nat.le_of_ble_eq_true rfl) (c_count (o := 16) (n := 48) (f := fun x => dec (tchP F f p x)) rfl (by decide) (fun x hx => by rw [mo_o]; exact hb x hx)) ?_
    rintro _ M9 ⟨rfl, e9⟩
    subst M9
    refine G_iret dX1_touching_44 rfl rfl ?_
    have e : p = 48 := by omega
    subst e
    exact ⟨rfl, b, rfl⟩
  · refine G_aload_n dX1_touching_15 rfl rfl ?_
    refine G_getR (j := 12) dX1_touching_16 fX1_18 rfl rfl ?_
    refine G_iload_n dX1_touching_19 rfl rfl ?_
    refine G_iald (k := p) (v := (oI (F p))) dX1_touching_20 rfl (vp_in_nI (by omega) (by omega)) (nI_clamp (by omega)) (by rw [mo_q (show (12 : Nat) ≠ 16 by decide)]; exact hM p (by omega)) ?_
    refine G_iload_n dX1_touching_21 rfl rfl ?_
    refine G_icmp_ne (tgt := 31) dX1_touching_22 (by decide) (fun h22 => ?_) (fun h22 => ?_)
    · refine G_iinc (v := (nI (p + 1))) (L2 := [some (.inr 8), some (.inl (nI f)), some (.inl (nI (p + 1)))]) dX1_touching_31 rfl (nI_1 _) rfl ?_
      refine G_goto (tgt := 9) dX1_touching_34 (by decide) ?_
      exact ih (48 - (p + 1)) (by omega) (p + 1) b rfl (by omega) (fun x hx => by rw [hb x hx]; exact congrArg bI (dec_eq ⟨fun y => tchP_s.mpr (Or.inl y), fun z => (tchP_s.mp z).elim id (fun y => absurd (by rw [y.1]; rfl) h22)⟩))
    · refine G_aload_n dX1_touching_25 rfl rfl ?_
      refine G_iload_n dX1_touching_26 rfl rfl ?_
      refine G_iload_n dX1_touching_27 rfl rfl ?_
      refine G_callVv (ν := uX1_markBeside) (As := [.inl (nI p), .inl (nI f)]) dX1_touching_28 nX1_79 kX1_markBeside rfl rfl rfl rfl rfl (Nat.le_of_ble_eq_true rfl) (c_mark (F := F) (P := tchP F f p) (fun q hq => by rw [mo_q (show (12 : Nat) ≠ 16 by decide)]; exact hM q hq) hF (by omega) hf (fun x hx => by rw [mo_o]; exact hb x hx)) ?_
      rintro _ M9 ⟨b1, e9, hb1⟩
      rw [mo_mo] at e9
      subst M9
      refine G_iinc (v := (nI (p + 1))) (L2 := [some (.inr 8), some (.inl (nI f)), some (.inl (nI (p + 1)))]) dX1_touching_31 rfl (nI_1 _) rfl ?_
      refine G_goto (tgt := 9) dX1_touching_34 (by decide) ?_
      exact ih (48 - (p + 1)) (by omega) (p + 1) b1 rfl (by omega) (fun x hx => by rw [hb1 x hx]; exact congrArg bI (dec_eq ⟨fun z => z.elim (fun y => tchP_s.mpr (Or.inl y)) (fun y => tchP_s.mpr (Or.inr ⟨oI_some (hF p) (hf := hf) h22, y⟩)), fun z => (tchP_s.mp z).elim Or.inl (fun y => Or.inr y.2)⟩))
theorem c_touching {d f : Nat} {F : Nat → Option Nat} {M : Mem} (hM : ∀ q, q < 48 → M 12 q = oI (F q)) (hF : ∀ q x, F q = some x → x < 48) (hf : f < 48) : Call l α D cA uX1_touching (d + 3) [.inr 8, .inl (nI f)] M (fun r M1 => r = .inl (nI (fb_ct (fun x => dec (tchF F f x)) 48)) ∧ ∃ b, M1 = mo M 16 b) := by
  refine Call.of kX1_touching.1 (Nat.le_of_ble_eq_true rfl) ?_
  refine G_aload_n dX1_touching_0 rfl rfl ?_
  refine G_getR (j := 16) dX1_touching_1 fX1_31 rfl rfl ?_
  refine G_callSv (ν := uX9_wipe) (As := [.inr 16]) dX1_touching_4 nX1_75 kX9_wipe rfl rfl rfl (Nat.le_of_ble_eq_true rfl) (c_wipe (o := 16) (n := 48) rfl (by decide)) ?_
  rintro _ M9 e9
  subst M9
  refine G_iconst (v := (nI 0)) dX1_touching_7 (by decide) ?_
  refine G_istore_n (L2 := [some (.inr 8), some (.inl (nI f)), some (.inl (nI 0))]) dX1_touching_8 rfl (Nat.le_of_ble_eq_true rfl) rfl ?_
  exact l_touching hM hF hf 48 0 _ rfl (by omega) (fun x hx => by rw [fil_in hx]; exact bI_df (fun ⟨p, h, _⟩ => Nat.not_lt_zero _ h))
end P15
