/-! The reference holds a state; its queries -/
section P34
variable {l : Launch} {α : Nat → Nat} {D : va_G} {cA : Nat → ClassId}
def b8 (c : Nat) : Int32 := (nI c).toInt8.toInt32
def PAm (n : Nat) (G : Nat → Nat → Nat) (M : Mem) : Prop := M 50 4 = nI n ∧ n ≤ 6 ∧ ∀ i, i < n → hS (G i) (fun k => M 53 (60 * (n - 1 - i) + k))
def KEm (sv : Nat → Bool) (S : Nat → Nat → Nat) (M : Mem) : Prop := ∀ i, i < 2 → M 55 i = bI (sv i) ∧ (sv i = true → hS (S i) (fun k => M 54 (60 * i + k)))
def FAm (n : Nat) (dr wt fg : Nat → Nat) (M : Mem) : Prop := M 50 8 = nI n ∧ n ≤ 6 ∧ ∀ i, i < n → (M 56 (3 * i) = nI (dr i) ∧ dr i < 2) ∧ (M 56 (3 * i + 1) = nI (wt i) ∧ wt i < 4) ∧ M 56 (3 * i + 2) = nI (fg i) ∧ fg i ≤ 99
def TBm (n : Nat) (t : Nat → Nat) (M : Mem) : Prop := M 50 10 = nI n ∧ n ≤ 120 ∧ ∀ i, i < n → M 57 i = b8 (t i) ∧ t i ≤ 255
/-- the reference holds the state -/
def YR (s : AS) (M : Mem) : Prop := oka s ∧ hS s.2.1 (M 51) ∧ PAm s.2.2.1.1 s.2.2.1.2 M ∧ KEm s.2.2.2.1.1 s.2.2.2.1.2 M ∧ FAm s.2.2.2.2.1 s.2.2.2.2.2.1 s.2.2.2.2.2.2.1 s.2.2.2.2.2.2.2 M ∧ TBm s.1.1 s.1.2 M
def FY (M M1 : Mem) : Prop := (∀ q, (q < 52 ∨ (53 ≤ q ∧ q ≤ 57)) → q ≠ 50 → M1 q = M q) ∧ ∀ j, j = 4 ∨ j = 8 ∨ j = 10 → M1 50 j = M 50 j
theorem FY_r {M : Mem} : FY M M := ⟨fun _ _ _ => rfl, fun _ _ => rfl⟩
theorem FY_t {M M1 M2 : Mem} (h : FY M M1) (h2 : FY M1 M2) : FY M M2 := ⟨fun q a b => (h2.1 q a b).trans (h.1 q a b), fun j a => (h2.2 j a).trans (h.2 j a)⟩
theorem FY_T {M M1 : Mem} (h : FT M M1) : FY M M1 := ⟨fun q a b => h.1 q b (by omega), fun j a => h.2 j (by omega) (by omega) (by omega)⟩
theorem FY_L {M M1 : Mem} (h : FRL M M1) : FY M M1 := ⟨fun q a b => h.1 q b (by omega), fun j a => h.2 j (by omega)⟩
theorem FY_0 {M : Mem} {v : Int32} : FY M (ms M 50 0 v) := ⟨fun q a b => ms_q b, fun j a => by rw [ms_o, upd_n (by omega)]⟩
theorem YR_Y {s : AS} {M M1 : Mem} (h : YR s M) (hF : FY M M1) : YR s M1 := by
  unfold YR PAm KEm FAm TBm at *
  rw [hF.1 51 (by decide) (by decide), hF.1 53 (by decide) (by decide), hF.1 54 (by decide) (by decide), hF.1 55 (by decide) (by decide), hF.1 56 (by decide) (by decide), hF.1 57 (by decide) (by decide), hF.2 4 (by decide), hF.2 8 (by decide), hF.2 10 (by decide)]
  exact h
def PY (M : Mem) (p : Int32 × AS) (r : AV) (M1 : Mem) : Prop := r = .inl p.1 ∧ YR p.2 M1 ∧ ∀ q, q < 50 → M1 q = M q
theorem PYq {s : AS} {M M0 M1 : Mem} {a ans : Int32} (h : YR s M0) (h0 : FY M M0) (hF : FY M0 M1) (e : a = ans) : PY M (a, s) (.inl ans) M1 := by
  subst e
  exact ⟨rfl, YR_Y h hF, fun q hq => (hF.1 q (by omega) (by omega)).trans (h0.1 q (by omega) (by omega))⟩
theorem cases_7 {w : Int32} : w = nI 0 ∨ w = nI 1 ∨ w = nI 2 ∨ w = nI 3 ∨ w = nI 4 ∨ w = nI 5 ∨ w = nI 6 ∨ w = nI 7 ∨ ¬ inI 0 7 w := by
  by_cases h : inI 0 7 w
  · obtain ⟨j, -, hj, rfl⟩ := inI_nI h (by decide) (by decide)
    rcases (show j = 0 ∨ j = 1 ∨ j = 2 ∨ j = 3 ∨ j = 4 ∨ j = 5 ∨ j = 6 ∨ j = 7 by omega) with rfl | rfl | rfl | rfl | rfl | rfl | rfl | rfl <;> simp
  · simp [h]
theorem fnd_ct {P : Nat → Bool} : ∀ n, fnd P n = none ↔ fb_ct P n = 0 := by
  intro n
  rw [fb_ct_zero]
  constructor
  · intro h k hk
    have := fnd_none h k hk
    cases hz : P k with
    | false => rfl
    | true => exact absurd hz this
  · intro h
    exact fnd_no (fun j hj => by rw [h j hj]; decide)
theorem y_cell {d : Nat} {s : AS} {M : Mem} {x0 y0 w0 : Int32} (hY : YR s M) : Call l α D cA uX10_cell (d + 4) [.inr 50, .inl x0, .inl y0, .inl w0] M (PY M (qCell s.2.1 x0 y0 w0, s)) := by
  refine Call.of kX10_cell.1 (Nat.le_of_ble_eq_true rfl) ?_
  refine G_aload_n dX10_cell_0 rfl rfl ?_
  refine G_iconst (v := (nI 0)) dX10_cell_1 (by decide) ?_
  refine G_put dX10_cell_2 pX10_81 rfl rfl ?_
  have hF0 : FY M (ms M 50 0 (nI 0)) := FY_0
  generalize ms M 50 0 (nI 0) = M0 at hF0 ⊢
  have hY0 := YR_Y hY hF0
  obtain ⟨hok, hs, hPA, hKE, hFA, hTB⟩ := id hY0
  have hk := hok.1
  refine G_aload_n dX10_cell_5 rfl rfl ?_
  refine G_iload_n dX10_cell_6 rfl rfl ?_
  refine G_iload_n dX10_cell_7 rfl rfl ?_
  refine G_callVi (ν := uX10_isCell) (As := [.inl x0, .inl y0]) dX10_cell_8 nX10_147 kX10_isCell rfl rfl rfl rfl rfl (Nat.le_of_ble_eq_true rfl) (y_isCell hs hk) ?_
  rintro _ M8 ⟨rfl, e9⟩
  subst M8
  refine Gb_if_eq (tgt := 23) dX10_cell_11 (by decide) (fun h11 => ?_) (fun h11 => ?_)
  · refine G_iconst (v := ((-1))) dX10_cell_23 (by decide) ?_
    refine G_iret dX10_cell_24 rfl rfl ?_
    exact PYq hY0 hF0 FY_r (by rw [qCell, cI_f (fun q => notrue h11 q.1)])
  · refine G_iload_n dX10_cell_14 rfl rfl ?_
    refine G_iconst (v := (nI 0)) dX10_cell_15 (by decide) ?_
    refine G_iconst (v := (nI 1)) dX10_cell_16 (by decide) ?_
    refine G_callSi (ν := uX10_in) (As := [.inl w0, .inl (nI 0), .inl (nI 1)]) dX10_cell_17 nX10_85 kX10_in rfl rfl rfl (Nat.le_of_ble_eq_true rfl) (y_inI (lo := 0) (hi := 1)) ?_
    rintro _ M8 ⟨rfl, e9⟩
    subst M8
    refine Gb_if_ne (tgt := 25) dX10_cell_20 (by decide) (fun h20 => ?_) (fun h20 => ?_)
    · obtain ⟨x, y, hx, hy, rfl, rfl⟩ := hasD_nI h11 hk.1.1 hk.2.1.1 hk.1.2 hk.2.1.2
      obtain ⟨w, -, hw, rfl⟩ := inI_nI (dec_iff.mp h20) (by decide) (by decide)
      have hk1 := hk.1.2
      have hk2 := hk.2.1.2
      have hp8 : (8 * y + x) % 8 = x ∧ (8 * y + x) / 8 = y := by omega
      have hnl : s.2.1 0 * y + x < s.2.1 0 * s.2.1 1 ∧ pl (s.2.1 0) (s.2.1 0 * y + x) = 8 * y + x := by
        have a := nm_lt (w := s.2.1 0) (h := s.2.1 1) (p := 8 * y + x) (by omega) (by omega)
        have b := pl_nm (w := s.2.1 0) (p := 8 * y + x) (by omega)
        unfold nm at a b
        rw [hp8.1, hp8.2] at a b
        exact ⟨a, b⟩
      have hN := cel_48 hk
      rcases (show w = 0 ∨ w = 1 by omega) with rfl | rfl
      · skip
        refine G_aload_n dX10_cell_25 rfl rfl ?_
        refine G_callVv (ν := uX10_laysFields) (As := []) dX10_cell_26 nX10_228 kX10_laysFields rfl rfl rfl rfl rfl (Nat.le_of_ble_eq_true rfl) (y_laysFields hs hk) ?_
        rintro _ M2 ⟨hR2, hO2⟩
        have hs2 : hS s.2.1 (M2 51) := by rw [hR2.1 51 (by decide) (by decide)]; exact hs
        refine G_iload_n dX10_cell_29 rfl rfl ?_
        refine Gn_if_ne (tgt := 54) dX10_cell_30 (by decide) (by omega) (fun h30 => ?_) (fun h30 => ?_)
        · omega
        · refine G_aload_n dX10_cell_33 rfl rfl ?_
          refine G_getR (j := 51) dX10_cell_34 fX10_7 rfl rfl ?_
          refine G_bipush (v := (nI 12)) dX10_cell_37 (by decide) ?_
          refine G_aload_n dX10_cell_39 rfl rfl ?_
          refine G_getR (j := 51) dX10_cell_40 fX10_7 rfl rfl ?_
          refine G_iconst (v := (nI 0)) dX10_cell_43 (by decide) ?_
          refine G_iald (k := 0) (v := (nI (s.2.1 0))) dX10_cell_44 rfl (vp_in_nI (by decide) (by decide)) rfl (hs2.1 0 (by decide)) ?_
          refine G_iload_n dX10_cell_45 rfl rfl ?_
          refine G_imul (v := (nI ((s.2.1 0) * y))) dX10_cell_46 (pk_mul _ _) ?_
          refine G_iadd (v := (nI (12 + s.2.1 0 * y))) dX10_cell_47 (nI_add _ _) ?_
          refine G_iload_n dX10_cell_48 rfl rfl ?_
          refine G_iadd (v := (nI (12 + (s.2.1 0 * y + x)))) dX10_cell_49 ((nI_add _ _).trans (by rw [Nat.add_assoc])) ?_
          refine G_iald (k := 12 + (s.2.1 0 * y + x)) (v := (nI (s.2.1 (12 + (8 * y + x))))) dX10_cell_50 rfl (vp_in_nI (by omega) (by omega)) (nI_clamp (by omega)) ((hs2.2 _ hnl.1).trans (by rw [hnl.2])) ?_
          refine G_goto (tgt := 69) dX10_cell_51 (by decide) ?_
          refine G_iret dX10_cell_69 rfl rfl ?_
          exact PYq hY0 hF0 (FY_L hR2) (qCell_c hk hx hy)
      · skip
        refine G_aload_n dX10_cell_25 rfl rfl ?_
        refine G_callVv (ν := uX10_laysFields) (As := []) dX10_cell_26 nX10_228 kX10_laysFields rfl rfl rfl rfl rfl (Nat.le_of_ble_eq_true rfl) (y_laysFields hs hk) ?_
        rintro _ M2 ⟨hR2, hO2⟩
        have hs2 : hS s.2.1 (M2 51) := by rw [hR2.1 51 (by decide) (by decide)]; exact hs
        refine G_iload_n dX10_cell_29 rfl rfl ?_
        refine Gn_if_ne (tgt := 54) dX10_cell_30 (by decide) (by omega) (fun h30 => ?_) (fun h30 => ?_)
        · refine G_aload_n dX10_cell_54 rfl rfl ?_
          refine G_getR (j := 58) dX10_cell_55 fX10_33 rfl rfl ?_
          refine G_aload_n dX10_cell_58 rfl rfl ?_
          refine G_getR (j := 51) dX10_cell_59 fX10_7 rfl rfl ?_
          refine G_iconst (v := (nI 0)) dX10_cell_62 (by decide) ?_
          refine G_iald (k := 0) (v := (nI (s.2.1 0))) dX10_cell_63 rfl (vp_in_nI (by decide) (by decide)) rfl (hs2.1 0 (by decide)) ?_
          refine G_iload_n dX10_cell_64 rfl rfl ?_
          refine G_imul (v := (nI ((s.2.1 0) * y))) dX10_cell_65 (pk_mul _ _) ?_
          refine G_iload_n dX10_cell_66 rfl rfl ?_
          refine G_iadd (v := (nI (((s.2.1 0) * y) + x))) dX10_cell_67 (nI_add _ _) ?_
          refine G_iald (k := ((s.2.1 0) * y) + x) (v := (oI (labF s.2.1 (8 * y + x)))) dX10_cell_68 rfl (vp_in_nI (by omega) (by omega)) (nI_clamp (by omega)) ((hO2.1 _ hnl.1).trans (by rw [hnl.2])) ?_
          refine G_iret dX10_cell_69 rfl rfl ?_
          exact PYq hY0 hF0 (FY_L hR2) (qCell_f hk hx hy)
        · omega
    · refine G_iconst (v := ((-1))) dX10_cell_23 (by decide) ?_
      refine G_iret dX10_cell_24 rfl rfl ?_
      exact PYq hY0 hF0 FY_r (by rw [qCell, cI_f (fun q => dec_niff.mp h20 q.2)])
theorem y_field {d : Nat} {s : AS} {M : Mem} {f0 w0 : Int32} (hY : YR s M) : Call l α D cA uX10_field (d + 6) [.inr 50, .inl f0, .inl w0] M (PY M (qField s.2.1 f0 w0, s)) := by
  refine Call.of kX10_field.1 (Nat.le_of_ble_eq_true rfl) ?_
  refine G_aload_n dX10_field_0 rfl rfl ?_
  refine G_iconst (v := (nI 0)) dX10_field_1 (by decide) ?_
  refine G_put dX10_field_2 pX10_81 rfl rfl ?_
  have hF0 : FY M (ms M 50 0 (nI 0)) := FY_0
  generalize ms M 50 0 (nI 0) = M0 at hF0 ⊢
  have hY0 := YR_Y hY hF0
  obtain ⟨hok, hs, hPA, hKE, hFA, hTB⟩ := id hY0
  have hk := hok.1
  refine G_aload_n dX10_field_5 rfl rfl ?_
  refine G_iload_n dX10_field_6 rfl rfl ?_
  refine G_callVi (ν := uX10_isField) (As := [.inl f0]) dX10_field_7 nX10_231 kX10_isField rfl rfl rfl rfl rfl (Nat.le_of_ble_eq_true rfl) (y_isField (f := f0) hs hk) ?_
  rintro _ M2 ⟨rfl, hR2, hO2⟩
  have hs2 : hS s.2.1 (M2 51) := by rw [hR2.1 51 (by decide) (by decide)]; exact hs
  refine Gb_if_ne (tgt := 15) dX10_field_10 (by decide) (fun h10 => ?_) (fun h10 => ?_)
  · obtain ⟨f, hf, rfl⟩ := hasF_nI (dec_iff.mp h10)
    rcases (cases_7 (w := w0)) with rfl | rfl | rfl | rfl | rfl | rfl | rfl | rfl | hn
    · skip
      refine G_iload_n dX10_field_15 rfl rfl ?_
      refine G_swIn (tgt := 64) dX10_field_16 (by decide) (by decide) rfl (by decide) ?_
      refine G_aload_n dX10_field_64 rfl rfl ?_
      refine G_iload_n dX10_field_65 rfl rfl ?_
      refine G_callVi (ν := uX10_colourOf) (As := [.inl (nI f)]) dX10_field_66 nX10_218 kX10_colourOf rfl rfl rfl rfl rfl (Nat.le_of_ble_eq_true rfl) (y_colourOf hs2 hk hO2 hf) ?_
      rintro _ M8 ⟨rfl, e9⟩
      subst M8
      refine G_iret dX10_field_69 rfl rfl ?_
      exact PYq hY0 hF0 (FY_L hR2) (qField_is hf (by decide))
    · skip
      refine G_iload_n dX10_field_15 rfl rfl ?_
      refine G_swIn (tgt := 70) dX10_field_16 (by decide) (by decide) rfl (by decide) ?_
      refine G_aload_n dX10_field_70 rfl rfl ?_
      refine G_iload_n dX10_field_71 rfl rfl ?_
      refine G_callVi (ν := uX10_sizeOf) (As := [.inl (nI f)]) dX10_field_72 nX10_235 kX10_sizeOf rfl rfl rfl rfl rfl (Nat.le_of_ble_eq_true rfl) (y_sizeOf hs2 hk hO2 hf) ?_
      rintro _ M8 ⟨rfl, e9⟩
      subst M8
      refine G_iret dX10_field_75 rfl rfl ?_
      exact PYq hY0 hF0 (FY_L hR2) (qField_is hf (by decide))
    · skip
      refine G_iload_n dX10_field_15 rfl rfl ?_
      refine G_swIn (tgt := 76) dX10_field_16 (by decide) (by decide) rfl (by decide) ?_
      refine G_aload_n dX10_field_76 rfl rfl ?_
      refine G_iload_n dX10_field_77 rfl rfl ?_
      refine G_callVi (ν := uX10_lowestOf) (As := [.inl (nI f)]) dX10_field_78 nX10_166 kX10_lowestOf rfl rfl rfl rfl rfl (Nat.le_of_ble_eq_true rfl) (y_lowestOf hs2 hk hO2 hf) ?_
      rintro _ M8 ⟨rfl, e9⟩
      subst M8
      refine G_iret dX10_field_81 rfl rfl ?_
      exact PYq hY0 hF0 (FY_L hR2) (qField_is hf (by decide))
    · skip
      refine G_iload_n dX10_field_15 rfl rfl ?_
      refine G_swIn (tgt := 82) dX10_field_16 (by decide) (by decide) rfl (by decide) ?_
      refine G_aload_n dX10_field_82 rfl rfl ?_
      refine G_iload_n dX10_field_83 rfl rfl ?_
      refine G_callVi (ν := uX10_bestWay) (As := [.inl (nI f)]) dX10_field_84 nX10_238 kX10_bestWay rfl rfl rfl rfl rfl (Nat.le_of_ble_eq_true rfl) (y_best hs2 hk hO2 hf) ?_
      rintro _ M8 ⟨rfl, e9, -⟩
      refine G_iret dX10_field_87 rfl rfl ?_
      exact PYq hY0 hF0 (FY_t (FY_L hR2) (FY_T e9)) (qField_is hf (by decide))
    · skip
      refine G_iload_n dX10_field_15 rfl rfl ?_
      refine G_swIn (tgt := 88) dX10_field_16 (by decide) (by decide) rfl (by decide) ?_
      refine G_aload_n dX10_field_88 rfl rfl ?_
      refine G_iload_n dX10_field_89 rfl rfl ?_
      refine G_iload_n dX10_field_90 rfl rfl ?_
      refine G_callVi (ν := uX10_coveredBy) (As := [.inl (nI f), .inl (nI 4)]) dX10_field_91 nX10_241 kX10_coveredBy rfl rfl rfl rfl rfl (Nat.le_of_ble_eq_true rfl) (y_cb4 hs2 hk hO2 hf) ?_
      rintro _ M8 ⟨rfl, e9, -⟩
      refine G_iret dX10_field_94 rfl rfl ?_
      exact PYq hY0 hF0 (FY_t (FY_L hR2) (FY_T e9)) (qField_is hf (by decide))
    · skip
      refine G_iload_n dX10_field_15 rfl rfl ?_
      refine G_swIn (tgt := 88) dX10_field_16 (by decide) (by decide) rfl (by decide) ?_
      refine G_aload_n dX10_field_88 rfl rfl ?_
      refine G_iload_n dX10_field_89 rfl rfl ?_
      refine G_iload_n dX10_field_90 rfl rfl ?_
      refine G_callVi (ν := uX10_coveredBy) (As := [.inl (nI f), .inl (nI 5)]) dX10_field_91 nX10_241 kX10_coveredBy rfl rfl rfl rfl rfl (Nat.le_of_ble_eq_true rfl) (y_cb5 hs2 hk hO2 hf) ?_
      rintro _ M8 ⟨rfl, e9, -⟩
      refine G_iret dX10_field_94 rfl rfl ?_
      exact PYq hY0 hF0 (FY_t (FY_L hR2) (FY_T e9)) (qField_is hf (by decide))
    · skip
      refine G_iload_n dX10_field_15 rfl rfl ?_
      refine G_swIn (tgt := 88) dX10_field_16 (by decide) (by decide) rfl (by decide) ?_
      refine G_aload_n dX10_field_88 rfl rfl ?_
      refine G_iload_n dX10_field_89 rfl rfl ?_
      refine G_iload_n dX10_field_90 rfl rfl ?_
      refine G_callVi (ν := uX10_coveredBy) (As := [.inl (nI f), .inl (nI 6)]) dX10_field_91 nX10_241 kX10_coveredBy rfl rfl rfl rfl rfl (Nat.le_of_ble_eq_true rfl) (y_cb6 hs2 hk hO2 hf) ?_
      rintro _ M8 ⟨rfl, e9, -⟩
      refine G_iret dX10_field_94 rfl rfl ?_
      exact PYq hY0 hF0 (FY_t (FY_L hR2) (FY_T e9)) (qField_is hf (by decide))
    · skip
      refine G_iload_n dX10_field_15 rfl rfl ?_
      refine G_swIn (tgt := 95) dX10_field_16 (by decide) (by decide) rfl (by decide) ?_
      refine G_aload_n dX10_field_95 rfl rfl ?_
      refine G_iload_n dX10_field_96 rfl rfl ?_
      refine G_callVi (ν := uX10_touching) (As := [.inl (nI f)]) dX10_field_97 nX10_244 kX10_touching rfl rfl rfl rfl rfl (Nat.le_of_ble_eq_true rfl) (y_touching hs2 hk hO2 hf) ?_
      rintro _ M8 ⟨rfl, e9⟩
      subst M8
      refine G_iret dX10_field_100 rfl rfl ?_
      exact PYq hY0 hF0 (FY_L hR2) (qField_is hf (by decide))
    · skip
      refine G_iload_n dX10_field_15 rfl rfl ?_
      refine G_swOut (tgt := 101) dX10_field_16 (sw_out (n := 7) hn (by decide) rfl) (by decide) ?_
      refine G_iconst (v := ((-1))) dX10_field_101 (by decide) ?_
      refine G_iret dX10_field_102 rfl rfl ?_
      exact PYq hY0 hF0 (FY_L hR2) (by rw [qField, cI_f (fun q => hn q.2)])
  · refine G_iconst (v := ((-1))) dX10_field_13 (by decide) ?_
    refine G_iret dX10_field_14 rfl rfl ?_
    exact PYq hY0 hF0 (FY_L hR2) (by rw [qField, cI_f (fun q => dec_niff.mp h10 q.1)])
theorem y_sewn {d : Nat} {s : AS} {M : Mem} {f0 v0 w0 : Int32} (hY : YR s M) : Call l α D cA uX10_sewn (d + 5) [.inr 50, .inl f0, .inl v0, .inl w0] M (PY M (qSewn s.2.1 f0 v0 w0, s)) := by
  refine Call.of kX10_sewn.1 (Nat.le_of_ble_eq_true rfl) ?_
  refine G_aload_n dX10_sewn_0 rfl rfl ?_
  refine G_iconst (v := (nI 0)) dX10_sewn_1 (by decide) ?_
  refine G_put dX10_sewn_2 pX10_81 rfl rfl ?_
  have hF0 : FY M (ms M 50 0 (nI 0)) := FY_0
  generalize ms M 50 0 (nI 0) = M0 at hF0 ⊢
  have hY0 := YR_Y hY hF0
  obtain ⟨hok, hs, hPA, hKE, hFA, hTB⟩ := id hY0
  have hk := hok.1
  refine G_aload_n dX10_sewn_5 rfl rfl ?_
  refine G_iload_n dX10_sewn_6 rfl rfl ?_
  refine G_callVi (ν := uX10_isField) (As := [.inl f0]) dX10_sewn_7 nX10_231 kX10_isField rfl rfl rfl rfl rfl (Nat.le_of_ble_eq_true rfl) (y_isField (f := f0) hs hk) ?_
  rintro _ M2 ⟨rfl, hR2, hO2⟩
  have hs2 : hS s.2.1 (M2 51) := by rw [hR2.1 51 (by decide) (by decide)]; exact hs
  refine Gb_if_eq (tgt := 41) dX10_sewn_10 (by decide) (fun h10 => ?_) (fun h10 => ?_)
  · refine G_iconst (v := ((-1))) dX10_sewn_41 (by decide) ?_
    refine G_iret dX10_sewn_42 rfl rfl ?_
    exact PYq hY0 hF0 (FY_L hR2) (by rw [qSewn, cI_f (fun q => dec_niff.mp h10 q.1)])
  · refine G_iload_n dX10_sewn_13 rfl rfl ?_
    refine G_iconst (v := (nI 0)) dX10_sewn_14 (by decide) ?_
    refine G_iconst (v := (nI 1)) dX10_sewn_15 (by decide) ?_
    refine G_callSi (ν := uX10_in) (As := [.inl v0, .inl (nI 0), .inl (nI 1)]) dX10_sewn_16 nX10_85 kX10_in rfl rfl rfl (Nat.le_of_ble_eq_true rfl) (y_inI (lo := 0) (hi := 1)) ?_
    rintro _ M8 ⟨rfl, e9⟩
    subst M8
    refine Gb_if_eq (tgt := 41) dX10_sewn_19 (by decide) (fun h19 => ?_) (fun h19 => ?_)
    · refine G_iconst (v := ((-1))) dX10_sewn_41 (by decide) ?_
      refine G_iret dX10_sewn_42 rfl rfl ?_
      exact PYq hY0 hF0 (FY_L hR2) (by rw [qSewn, cI_f (fun q => dec_niff.mp h19 q.2.1)])
    · refine G_iload_n dX10_sewn_22 rfl rfl ?_
      refine G_iconst (v := (nI 0)) dX10_sewn_23 (by decide) ?_
      refine G_iconst (v := (nI 3)) dX10_sewn_24 (by decide) ?_
      refine G_callSi (ν := uX10_in) (As := [.inl w0, .inl (nI 0), .inl (nI 3)]) dX10_sewn_25 nX10_85 kX10_in rfl rfl rfl (Nat.le_of_ble_eq_true rfl) (y_inI (lo := 0) (hi := 3)) ?_
      rintro _ M8 ⟨rfl, e9⟩
      subst M8
      refine Gb_if_eq (tgt := 41) dX10_sewn_28 (by decide) (fun h28 => ?_) (fun h28 => ?_)
      · refine G_iconst (v := ((-1))) dX10_sewn_41 (by decide) ?_
        refine G_iret dX10_sewn_42 rfl rfl ?_
        exact PYq hY0 hF0 (FY_L hR2) (by rw [qSewn, cI_f (fun q => dec_niff.mp h28 q.2.2)])
      · obtain ⟨f, hf, rfl⟩ := hasF_nI (dec_iff.mp h10)
        obtain ⟨v, -, hv, rfl⟩ := inI_nI (dec_iff.mp h19) (by decide) (by decide)
        obtain ⟨w, -, hw, rfl⟩ := inI_nI (dec_iff.mp h28) (by decide) (by decide)
        refine G_aload_n dX10_sewn_31 rfl rfl ?_
        refine G_iload_n dX10_sewn_32 rfl rfl ?_
        refine G_iload_n dX10_sewn_33 rfl rfl ?_
        refine G_iload_n dX10_sewn_34 rfl rfl ?_
        refine G_callVi (ν := uX10_toldOf) (As := [.inl (nI f), .inl (nI v), .inl (nI w)]) dX10_sewn_35 nX10_214 kX10_toldOf rfl rfl rfl rfl rfl (Nat.le_of_ble_eq_true rfl) (y_toldOf hs2 hk hO2 (by omega) hf (by omega)) ?_
        rintro _ M8 ⟨rfl, e9, -⟩
        refine G_goto (tgt := 42) dX10_sewn_38 (by decide) ?_
        refine G_iret dX10_sewn_42 rfl rfl ?_
        exact PYq hY0 hF0 (FY_t (FY_L hR2) (FY_T e9)) (qSewn_is hf hv hw)
theorem y_row {d : Nat} {s : AS} {M : Mem} {f0 v0 r0 w0 : Int32} (hY : YR s M) : Call l α D cA uX10_row (d + 5) [.inr 50, .inl f0, .inl v0, .inl r0, .inl w0] M (PY M (qRow s.2.1 f0 v0 r0 w0, s)) := by
  refine Call.of kX10_row.1 (Nat.le_of_ble_eq_true rfl) ?_
  refine G_aload_n dX10_row_0 rfl rfl ?_
  refine G_iconst (v := (nI 0)) dX10_row_1 (by decide) ?_
  refine G_put dX10_row_2 pX10_81 rfl rfl ?_
  have hF0 : FY M (ms M 50 0 (nI 0)) := FY_0
  generalize ms M 50 0 (nI 0) = M0 at hF0 ⊢
  have hY0 := YR_Y hY hF0
  obtain ⟨hok, hs, hPA, hKE, hFA, hTB⟩ := id hY0
  have hk := hok.1
  refine G_aload_n dX10_row_5 rfl rfl ?_
  refine G_iload_n dX10_row_6 rfl rfl ?_
  refine G_callVi (ν := uX10_isField) (As := [.inl f0]) dX10_row_7 nX10_231 kX10_isField rfl rfl rfl rfl rfl (Nat.le_of_ble_eq_true rfl) (y_isField (f := f0) hs hk) ?_
  rintro _ M2 ⟨rfl, hR2, hO2⟩
  have hs2 : hS s.2.1 (M2 51) := by rw [hR2.1 51 (by decide) (by decide)]; exact hs
  refine Gb_if_eq (tgt := 36) dX10_row_10 (by decide) (fun h10 => ?_) (fun h10 => ?_)
  · refine G_iconst (v := ((-1))) dX10_row_36 (by decide) ?_
    refine G_iret dX10_row_37 rfl rfl ?_
    exact PYq hY0 hF0 (FY_L hR2) (by rw [qRow, cI_f (fun q => dec_niff.mp h10 q.1)])
  · refine G_iload_n dX10_row_13 rfl rfl ?_
    refine G_iconst (v := (nI 0)) dX10_row_14 (by decide) ?_
    refine G_iconst (v := (nI 1)) dX10_row_15 (by decide) ?_
    refine G_callSi (ν := uX10_in) (As := [.inl v0, .inl (nI 0), .inl (nI 1)]) dX10_row_16 nX10_85 kX10_in rfl rfl rfl (Nat.le_of_ble_eq_true rfl) (y_inI (lo := 0) (hi := 1)) ?_
    rintro _ M8 ⟨rfl, e9⟩
    subst M8
    refine Gb_if_eq (tgt := 36) dX10_row_19 (by decide) (fun h19 => ?_) (fun h19 => ?_)
    · refine G_iconst (v := ((-1))) dX10_row_36 (by decide) ?_
      refine G_iret dX10_row_37 rfl rfl ?_
      exact PYq hY0 hF0 (FY_L hR2) (by rw [qRow, cI_f (fun q => dec_niff.mp h19 q.2.1)])
    · refine G_iload_n dX10_row_22 rfl rfl ?_
      refine G_if_lt (tgt := 36) dX10_row_23 (by decide) (fun h23 => ?_) (fun h23 => ?_)
      · refine G_iconst (v := ((-1))) dX10_row_36 (by decide) ?_
        refine G_iret dX10_row_37 rfl rfl ?_
        exact PYq hY0 hF0 (FY_L hR2) (by rw [qRow, cI_f (fun q => (by have := q.2.2.1; grind))])
      · refine G_iload dX10_row_26 rfl ?_
        refine G_iconst (v := (nI 0)) dX10_row_28 (by decide) ?_
        refine G_iconst (v := (nI 3)) dX10_row_29 (by decide) ?_
        refine G_callSi (ν := uX10_in) (As := [.inl w0, .inl (nI 0), .inl (nI 3)]) dX10_row_30 nX10_85 kX10_in rfl rfl rfl (Nat.le_of_ble_eq_true rfl) (y_inI (lo := 0) (hi := 3)) ?_
        rintro _ M8 ⟨rfl, e9⟩
        subst M8
        refine Gb_if_ne (tgt := 38) dX10_row_33 (by decide) (fun h33 => ?_) (fun h33 => ?_)
        · obtain ⟨f, hf, rfl⟩ := hasF_nI (dec_iff.mp h10)
          obtain ⟨v, -, hv, rfl⟩ := inI_nI (dec_iff.mp h19) (by decide) (by decide)
          obtain ⟨r, hr, rfl⟩ := nI_of (show ¬ r0 < 0 by assumption)
          obtain ⟨w, -, hw, rfl⟩ := inI_nI (dec_iff.mp h33) (by decide) (by decide)
          have v2 : v < 2 := by omega
          have hb1 : (rwS (labF s.2.1) v f (s.2.1 0) (s.2.1 1)).1 ≤ 48 := (rw_48 hk).1
          have hb2 : (psS (rwS (labF s.2.1) v f (s.2.1 0) (s.2.1 1))).1 ≤ 48 := (rw_48 hk).2
          refine G_aload_n dX10_row_38 rfl rfl ?_
          refine G_iload_n dX10_row_39 rfl rfl ?_
          refine G_iload_n dX10_row_40 rfl rfl ?_
          refine G_callVv (ν := uX10_laysRows) (As := [.inl (nI f), .inl (nI v)]) dX10_row_41 nX10_205 kX10_laysRows rfl rfl rfl rfl rfl (Nat.le_of_ble_eq_true rfl) (y_laysRows hs2 hk hO2 v2 hf) ?_
          rintro _ M3 ⟨hF3, hO3, hW3⟩
          have hs3 := FT_s hF3 hs2
          refine G_iload_n dX10_row_44 rfl rfl ?_
          refine G_aload_n dX10_row_45 rfl rfl ?_
          refine G_getI (v := (nI ((rwS (labF s.2.1) v f (s.2.1 0) (s.2.1 1)).1))) dX10_row_46 fX10_172 rfl rfl hW3.2.1.1 ?_
          refine Gn_icmp_lt (tgt := 55) dX10_row_49 (by decide) (by omega) (by omega) (fun h49 => ?_) (fun h49 => ?_)
          · have hri := row_in h49
            rcases (show w = 0 ∨ w = 1 ∨ w = 2 ∨ w = 3 by omega) with rfl | rfl | rfl | rfl
            · skip
              refine G_iload dX10_row_55 rfl ?_
              refine Gn_if_ne (tgt := 79) dX10_row_57 (by decide) (by omega) (fun h57 => ?_) (fun h57 => ?_)
              · omega
              · refine G_aload_n dX10_row_60 rfl rfl ?_
                refine G_aload_n dX10_row_61 rfl rfl ?_
                refine G_getR (j := 59) dX10_row_62 fX10_36 rfl rfl ?_
                refine G_iload_n dX10_row_65 rfl rfl ?_
                refine G_iald (k := r) (v := (nI ((rwS (labF s.2.1) v f (s.2.1 0) (s.2.1 1)).2.1 r))) dX10_row_66 rfl (vp_in_nI (by omega) (by omega)) (nI_clamp (by omega)) (hW3.2.1.2 r h49).1 ?_
                refine G_aload_n dX10_row_67 rfl rfl ?_
                refine G_getR (j := 60) dX10_row_68 fX10_39 rfl rfl ?_
                refine G_iload_n dX10_row_71 rfl rfl ?_
                refine G_iald (k := r) (v := (nI ((rwS (labF s.2.1) v f (s.2.1 0) (s.2.1 1)).2.2.1 r))) dX10_row_72 rfl (vp_in_nI (by omega) (by omega)) (nI_clamp (by omega)) (hW3.2.1.2 r h49).2.1 ?_
                refine G_callVi (ν := uX10_cellAt) (As := [.inl (nI ((rwS (labF s.2.1) v f (s.2.1 0) (s.2.1 1)).2.1 r)), .inl (nI ((rwS (labF s.2.1) v f (s.2.1 0) (s.2.1 1)).2.2.1 r))]) dX10_row_73 nX10_175 kX10_cellAt rfl rfl rfl rfl rfl (Nat.le_of_ble_eq_true rfl) (y_cellAt hs3 hk hW3.1 v2 hri.1 (by omega)) ?_
                rintro _ M8 ⟨rfl, e9⟩
                subst M8
                refine G_goto (tgt := 113) dX10_row_76 (by decide) ?_
                refine G_iret dX10_row_113 rfl rfl ?_
                exact PYq hY0 hF0 (FY_t (FY_L hR2) (FY_T hF3)) (qRow_is hf hv (by decide) h49 hb1)
            · skip
              refine G_iload dX10_row_55 rfl ?_
              refine Gn_if_ne (tgt := 79) dX10_row_57 (by decide) (by omega) (fun h57 => ?_) (fun h57 => ?_)
              · refine G_iload dX10_row_79 rfl ?_
                refine G_iconst (v := (nI 1)) dX10_row_81 (by decide) ?_
                refine Gn_icmp_ne (tgt := 93) dX10_row_82 (by decide) (by omega) (by omega) (fun h82 => ?_) (fun h82 => ?_)
                · omega
                · refine G_aload_n dX10_row_85 rfl rfl ?_
                  refine G_iload_n dX10_row_86 rfl rfl ?_
                  refine G_callVi (ν := uX10_lengthOf) (As := [.inl (nI r)]) dX10_row_87 nX10_187 kX10_lengthOf rfl rfl rfl rfl rfl (Nat.le_of_ble_eq_true rfl) (y_lengthOf hs3 hk hO3 v2 hW3 h49) ?_
                  rintro _ M8 ⟨rfl, e9⟩
                  subst M8
                  refine G_goto (tgt := 113) dX10_row_90 (by decide) ?_
                  refine G_iret dX10_row_113 rfl rfl ?_
                  exact PYq hY0 hF0 (FY_t (FY_L hR2) (FY_T hF3)) (qRow_is hf hv (by decide) h49 hb1)
              · omega
            · skip
              refine G_iload dX10_row_55 rfl ?_
              refine Gn_if_ne (tgt := 79) dX10_row_57 (by decide) (by omega) (fun h57 => ?_) (fun h57 => ?_)
              · refine G_iload dX10_row_79 rfl ?_
                refine G_iconst (v := (nI 1)) dX10_row_81 (by decide) ?_
                refine Gn_icmp_ne (tgt := 93) dX10_row_82 (by decide) (by omega) (by omega) (fun h82 => ?_) (fun h82 => ?_)
                · refine G_iload dX10_row_93 rfl ?_
                  refine G_iconst (v := (nI 2)) dX10_row_95 (by decide) ?_
                  refine Gn_icmp_ne (tgt := 107) dX10_row_96 (by decide) (by omega) (by omega) (fun h96 => ?_) (fun h96 => ?_)
                  · omega
                  · refine G_aload_n dX10_row_99 rfl rfl ?_
                    refine G_iload_n dX10_row_100 rfl rfl ?_
                    refine G_callVi (ν := uX10_stitchesOf) (As := [.inl (nI r)]) dX10_row_101 nX10_202 kX10_stitchesOf rfl rfl rfl rfl rfl (Nat.le_of_ble_eq_true rfl) (y_stitchesOf hs3 hk hO3 v2 hW3 h49) ?_
                    rintro _ M8 ⟨rfl, e9⟩
                    subst M8
                    refine G_goto (tgt := 113) dX10_row_104 (by decide) ?_
                    refine G_iret dX10_row_113 rfl rfl ?_
                    exact PYq hY0 hF0 (FY_t (FY_L hR2) (FY_T hF3)) (qRow_is hf hv (by decide) h49 hb1)
                · omega
              · omega
            · skip
              refine G_iload dX10_row_55 rfl ?_
              refine Gn_if_ne (tgt := 79) dX10_row_57 (by decide) (by omega) (fun h57 => ?_) (fun h57 => ?_)
              · refine G_iload dX10_row_79 rfl ?_
                refine G_iconst (v := (nI 1)) dX10_row_81 (by decide) ?_
                refine Gn_icmp_ne (tgt := 93) dX10_row_82 (by decide) (by omega) (by omega) (fun h82 => ?_) (fun h82 => ?_)
                · refine G_iload dX10_row_93 rfl ?_
                  refine G_iconst (v := (nI 2)) dX10_row_95 (by decide) ?_
                  refine Gn_icmp_ne (tgt := 107) dX10_row_96 (by decide) (by omega) (by omega) (fun h96 => ?_) (fun h96 => ?_)
                  · refine G_aload_n dX10_row_107 rfl rfl ?_
                    refine G_getR (j := 65) dX10_row_108 fX10_54 rfl rfl ?_
                    refine G_iload_n dX10_row_111 rfl rfl ?_
                    refine G_iald (k := r) (v := (nI ((psS (rwS (labF s.2.1) v f (s.2.1 0) (s.2.1 1))).2.1 r))) dX10_row_112 rfl (vp_in_nI (by omega) (by omega)) (nI_clamp (by omega)) (hW3.2.2.2.1 r h49) ?_
                    refine G_iret dX10_row_113 rfl rfl ?_
                    exact PYq hY0 hF0 (FY_t (FY_L hR2) (FY_T hF3)) (qRow_is hf hv (by decide) h49 hb1)
                  · omega
                · omega
              · omega
          · refine G_bipush (v := ((-9))) dX10_row_52 (by decide) ?_
            refine G_iret dX10_row_54 rfl rfl ?_
            exact PYq hY0 hF0 (FY_t (FY_L hR2) (FY_T hF3)) (qRow_no hf hv hw hr (fun q => absurd q (Nat.not_lt.mpr (by assumption))) hb1)
        · refine G_iconst (v := ((-1))) dX10_row_36 (by decide) ?_
          refine G_iret dX10_row_37 rfl rfl ?_
          exact PYq hY0 hF0 (FY_L hR2) (by rw [qRow, cI_f (fun q => dec_niff.mp h33 q.2.2.2)])
theorem y_part {d : Nat} {s : AS} {M : Mem} {f0 v0 r0 w0 : Int32} (hY : YR s M) : Call l α D cA uX10_part (d + 5) [.inr 50, .inl f0, .inl v0, .inl r0, .inl w0] M (PY M (qPart s.2.1 f0 v0 r0 w0, s)) := by
  refine Call.of kX10_part.1 (Nat.le_of_ble_eq_true rfl) ?_
  refine G_aload_n dX10_part_0 rfl rfl ?_
  refine G_iconst (v := (nI 0)) dX10_part_1 (by decide) ?_
  refine G_put dX10_part_2 pX10_81 rfl rfl ?_
  have hF0 : FY M (ms M 50 0 (nI 0)) := FY_0
  generalize ms M 50 0 (nI 0) = M0 at hF0 ⊢
  have hY0 := YR_Y hY hF0
  obtain ⟨hok, hs, hPA, hKE, hFA, hTB⟩ := id hY0
  have hk := hok.1
  refine G_aload_n dX10_part_5 rfl rfl ?_
  refine G_iload_n dX10_part_6 rfl rfl ?_
  refine G_callVi (ν := uX10_isField) (As := [.inl f0]) dX10_part_7 nX10_231 kX10_isField rfl rfl rfl rfl rfl (Nat.le_of_ble_eq_true rfl) (y_isField (f := f0) hs hk) ?_
  rintro _ M2 ⟨rfl, hR2, hO2⟩
  have hs2 : hS s.2.1 (M2 51) := by rw [hR2.1 51 (by decide) (by decide)]; exact hs
  refine Gb_if_eq (tgt := 36) dX10_part_10 (by decide) (fun h10 => ?_) (fun h10 => ?_)
  · refine G_iconst (v := ((-1))) dX10_part_36 (by decide) ?_
    refine G_iret dX10_part_37 rfl rfl ?_
    exact PYq hY0 hF0 (FY_L hR2) (by rw [qPart, cI_f (fun q => dec_niff.mp h10 q.1)])
  · refine G_iload_n dX10_part_13 rfl rfl ?_
    refine G_iconst (v := (nI 0)) dX10_part_14 (by decide) ?_
    refine G_iconst (v := (nI 1)) dX10_part_15 (by decide) ?_
    refine G_callSi (ν := uX10_in) (As := [.inl v0, .inl (nI 0), .inl (nI 1)]) dX10_part_16 nX10_85 kX10_in rfl rfl rfl (Nat.le_of_ble_eq_true rfl) (y_inI (lo := 0) (hi := 1)) ?_
    rintro _ M8 ⟨rfl, e9⟩
    subst M8
    refine Gb_if_eq (tgt := 36) dX10_part_19 (by decide) (fun h19 => ?_) (fun h19 => ?_)
    · refine G_iconst (v := ((-1))) dX10_part_36 (by decide) ?_
      refine G_iret dX10_part_37 rfl rfl ?_
      exact PYq hY0 hF0 (FY_L hR2) (by rw [qPart, cI_f (fun q => dec_niff.mp h19 q.2.1)])
    · refine G_iload_n dX10_part_22 rfl rfl ?_
      refine G_if_lt (tgt := 36) dX10_part_23 (by decide) (fun h23 => ?_) (fun h23 => ?_)
      · refine G_iconst (v := ((-1))) dX10_part_36 (by decide) ?_
        refine G_iret dX10_part_37 rfl rfl ?_
        exact PYq hY0 hF0 (FY_L hR2) (by rw [qPart, cI_f (fun q => (by have := q.2.2.1; grind))])
      · refine G_iload dX10_part_26 rfl ?_
        refine G_iconst (v := (nI 0)) dX10_part_28 (by decide) ?_
        refine G_iconst (v := (nI 3)) dX10_part_29 (by decide) ?_
        refine G_callSi (ν := uX10_in) (As := [.inl w0, .inl (nI 0), .inl (nI 3)]) dX10_part_30 nX10_85 kX10_in rfl rfl rfl (Nat.le_of_ble_eq_true rfl) (y_inI (lo := 0) (hi := 3)) ?_
        rintro _ M8 ⟨rfl, e9⟩
        subst M8
        refine Gb_if_ne (tgt := 38) dX10_part_33 (by decide) (fun h33 => ?_) (fun h33 => ?_)
        · obtain ⟨f, hf, rfl⟩ := hasF_nI (dec_iff.mp h10)
          obtain ⟨v, -, hv, rfl⟩ := inI_nI (dec_iff.mp h19) (by decide) (by decide)
          obtain ⟨r, hr, rfl⟩ := nI_of (show ¬ r0 < 0 by assumption)
          obtain ⟨w, -, hw, rfl⟩ := inI_nI (dec_iff.mp h33) (by decide) (by decide)
          have v2 : v < 2 := by omega
          have hb1 : (rwS (labF s.2.1) v f (s.2.1 0) (s.2.1 1)).1 ≤ 48 := (rw_48 hk).1
          have hb2 : (psS (rwS (labF s.2.1) v f (s.2.1 0) (s.2.1 1))).1 ≤ 48 := (rw_48 hk).2
          refine G_aload_n dX10_part_38 rfl rfl ?_
          refine G_iload_n dX10_part_39 rfl rfl ?_
          refine G_iload_n dX10_part_40 rfl rfl ?_
          refine G_callVv (ν := uX10_laysRows) (As := [.inl (nI f), .inl (nI v)]) dX10_part_41 nX10_205 kX10_laysRows rfl rfl rfl rfl rfl (Nat.le_of_ble_eq_true rfl) (y_laysRows hs2 hk hO2 v2 hf) ?_
          rintro _ M3 ⟨hF3, hO3, hW3⟩
          have hs3 := FT_s hF3 hs2
          rcases (show w = 0 ∨ w = 1 ∨ w = 2 ∨ w = 3 by omega) with rfl | rfl | rfl | rfl
          · skip
            refine G_iload_n dX10_part_44 rfl rfl ?_
            refine G_aload_n dX10_part_45 rfl rfl ?_
            refine G_getI (v := (nI ((psS (rwS (labF s.2.1) v f (s.2.1 0) (s.2.1 1))).1))) dX10_part_46 fX10_184 rfl rfl hW3.2.2.1 ?_
            refine Gn_icmp_ge (tgt := 68) dX10_part_49 (by decide) (by omega) (by omega) (fun h49 => ?_) (fun h49 => ?_)
            · refine G_bipush (v := ((-9))) dX10_part_68 (by decide) ?_
              refine G_iret dX10_part_70 rfl rfl ?_
              exact PYq hY0 hF0 (FY_t (FY_L hR2) (FY_T hF3)) (qPart_no hf hv (by omega) hr (fun q => absurd q (Nat.not_lt.mpr (by assumption))) hb2)
            · refine G_iload dX10_part_52 rfl ?_
              refine G_iconst (v := (nI 3)) dX10_part_54 (by decide) ?_
              refine Gn_icmp_ne (tgt := 71) dX10_part_55 (by decide) (by omega) (by omega) (fun h55 => ?_) (fun h55 => ?_)
              · refine G_iload dX10_part_71 rfl ?_
                refine Gn_if_ne (tgt := 85) dX10_part_73 (by decide) (by omega) (fun h73 => ?_) (fun h73 => ?_)
                · omega
                · refine G_aload_n dX10_part_76 rfl rfl ?_
                  refine G_getR (j := 66) dX10_part_77 fX10_57 rfl rfl ?_
                  refine G_iload_n dX10_part_80 rfl rfl ?_
                  refine G_iald (k := r) (v := (nI ((psS (rwS (labF s.2.1) v f (s.2.1 0) (s.2.1 1))).2.2.2.2 r))) dX10_part_81 rfl (vp_in_nI (by omega) (by omega)) (nI_clamp (by omega)) (hW3.2.2.2.2 r (by omega)).2.2 ?_
                  refine G_goto (tgt := 118) dX10_part_82 (by decide) ?_
                  refine G_iret dX10_part_118 rfl rfl ?_
                  exact PYq hY0 hF0 (FY_t (FY_L hR2) (FY_T hF3)) (qPart_is hf hv (by decide) (show r < (psS (rwG s.2.1 v f)).1 by assumption) hb2)
              · omega
          · skip
            refine G_iload_n dX10_part_44 rfl rfl ?_
            refine G_aload_n dX10_part_45 rfl rfl ?_
            refine G_getI (v := (nI ((psS (rwS (labF s.2.1) v f (s.2.1 0) (s.2.1 1))).1))) dX10_part_46 fX10_184 rfl rfl hW3.2.2.1 ?_
            refine Gn_icmp_ge (tgt := 68) dX10_part_49 (by decide) (by omega) (by omega) (fun h49 => ?_) (fun h49 => ?_)
            · refine G_bipush (v := ((-9))) dX10_part_68 (by decide) ?_
              refine G_iret dX10_part_70 rfl rfl ?_
              exact PYq hY0 hF0 (FY_t (FY_L hR2) (FY_T hF3)) (qPart_no hf hv (by omega) hr (fun q => absurd q (Nat.not_lt.mpr (by assumption))) hb2)
            · refine G_iload dX10_part_52 rfl ?_
              refine G_iconst (v := (nI 3)) dX10_part_54 (by decide) ?_
              refine Gn_icmp_ne (tgt := 71) dX10_part_55 (by decide) (by omega) (by omega) (fun h55 => ?_) (fun h55 => ?_)
              · refine G_iload dX10_part_71 rfl ?_
                refine Gn_if_ne (tgt := 85) dX10_part_73 (by decide) (by omega) (fun h73 => ?_) (fun h73 => ?_)
                · refine G_iload dX10_part_85 rfl ?_
                  refine G_iconst (v := (nI 1)) dX10_part_87 (by decide) ?_
                  refine Gn_icmp_ne (tgt := 99) dX10_part_88 (by decide) (by omega) (by omega) (fun h88 => ?_) (fun h88 => ?_)
                  · omega
                  · refine G_aload_n dX10_part_91 rfl rfl ?_
                    refine G_iload_n dX10_part_92 rfl rfl ?_
                    refine G_callVi (ν := uX10_startOf) (As := [.inl (nI r)]) dX10_part_93 nX10_193 kX10_startOf rfl rfl rfl rfl rfl (Nat.le_of_ble_eq_true rfl) (y_startOf hs3 hk hO3 v2 hW3 (by omega)) ?_
                    rintro _ M8 ⟨rfl, e9⟩
                    subst M8
                    refine G_goto (tgt := 118) dX10_part_96 (by decide) ?_
                    refine G_iret dX10_part_118 rfl rfl ?_
                    exact PYq hY0 hF0 (FY_t (FY_L hR2) (FY_T hF3)) (qPart_is hf hv (by decide) (show r < (psS (rwG s.2.1 v f)).1 by assumption) hb2)
                · omega
              · omega
          · skip
            refine G_iload_n dX10_part_44 rfl rfl ?_
            refine G_aload_n dX10_part_45 rfl rfl ?_
            refine G_getI (v := (nI ((psS (rwS (labF s.2.1) v f (s.2.1 0) (s.2.1 1))).1))) dX10_part_46 fX10_184 rfl rfl hW3.2.2.1 ?_
            refine Gn_icmp_ge (tgt := 68) dX10_part_49 (by decide) (by omega) (by omega) (fun h49 => ?_) (fun h49 => ?_)
            · refine G_bipush (v := ((-9))) dX10_part_68 (by decide) ?_
              refine G_iret dX10_part_70 rfl rfl ?_
              exact PYq hY0 hF0 (FY_t (FY_L hR2) (FY_T hF3)) (qPart_no hf hv (by omega) hr (fun q => absurd q (Nat.not_lt.mpr (by assumption))) hb2)
            · refine G_iload dX10_part_52 rfl ?_
              refine G_iconst (v := (nI 3)) dX10_part_54 (by decide) ?_
              refine Gn_icmp_ne (tgt := 71) dX10_part_55 (by decide) (by omega) (by omega) (fun h55 => ?_) (fun h55 => ?_)
              · refine G_iload dX10_part_71 rfl ?_
                refine Gn_if_ne (tgt := 85) dX10_part_73 (by decide) (by omega) (fun h73 => ?_) (fun h73 => ?_)
                · refine G_iload dX10_part_85 rfl ?_
                  refine G_iconst (v := (nI 1)) dX10_part_87 (by decide) ?_
                  refine Gn_icmp_ne (tgt := 99) dX10_part_88 (by decide) (by omega) (by omega) (fun h88 => ?_) (fun h88 => ?_)
                  · refine G_iload dX10_part_99 rfl ?_
                    refine G_iconst (v := (nI 2)) dX10_part_101 (by decide) ?_
                    refine Gn_icmp_ne (tgt := 113) dX10_part_102 (by decide) (by omega) (by omega) (fun h102 => ?_) (fun h102 => ?_)
                    · omega
                    · refine G_aload_n dX10_part_105 rfl rfl ?_
                      refine G_iload_n dX10_part_106 rfl rfl ?_
                      refine G_callVi (ν := uX10_endOf) (As := [.inl (nI r)]) dX10_part_107 nX10_190 kX10_endOf rfl rfl rfl rfl rfl (Nat.le_of_ble_eq_true rfl) (y_endOf hs3 hk hO3 v2 hW3 (by omega)) ?_
                      rintro _ M8 ⟨rfl, e9⟩
                      subst M8
                      refine G_goto (tgt := 118) dX10_part_110 (by decide) ?_
                      refine G_iret dX10_part_118 rfl rfl ?_
                      exact PYq hY0 hF0 (FY_t (FY_L hR2) (FY_T hF3)) (qPart_is hf hv (by decide) (show r < (psS (rwG s.2.1 v f)).1 by assumption) hb2)
                  · omega
                · omega
              · omega
          · skip
            refine G_iload_n dX10_part_44 rfl rfl ?_
            refine G_aload_n dX10_part_45 rfl rfl ?_
            refine G_getI (v := (nI ((psS (rwS (labF s.2.1) v f (s.2.1 0) (s.2.1 1))).1))) dX10_part_46 fX10_184 rfl rfl hW3.2.2.1 ?_
            refine Gn_icmp_ge (tgt := 68) dX10_part_49 (by decide) (by omega) (by omega) (fun h49 => ?_) (fun h49 => ?_)
            · refine G_bipush (v := ((-9))) dX10_part_68 (by decide) ?_
              refine G_iret dX10_part_70 rfl rfl ?_
              exact PYq hY0 hF0 (FY_t (FY_L hR2) (FY_T hF3)) (qPart_no hf hv (by omega) hr (fun q => absurd q (Nat.not_lt.mpr (by assumption))) hb2)
            · refine G_iload dX10_part_52 rfl ?_
              refine G_iconst (v := (nI 3)) dX10_part_54 (by decide) ?_
              refine Gn_icmp_ne (tgt := 71) dX10_part_55 (by decide) (by omega) (by omega) (fun h55 => ?_) (fun h55 => ?_)
              · omega
              · refine G_iload_n dX10_part_58 rfl rfl ?_
                refine G_aload_n dX10_part_59 rfl rfl ?_
                refine G_getI (v := (nI ((psS (rwS (labF s.2.1) v f (s.2.1 0) (s.2.1 1))).1))) dX10_part_60 fX10_184 rfl rfl hW3.2.2.1 ?_
                refine G_iconst (v := (nI 1)) dX10_part_63 (by decide) ?_
                refine G_isub (v := (nI (((psS (rwS (labF s.2.1) v f (s.2.1 0) (s.2.1 1))).1) - 1))) dX10_part_64 (pk_sub (by omega)) ?_
                refine Gn_icmp_ne (tgt := 71) dX10_part_65 (by decide) (by omega) (by omega) (fun h65 => ?_) (fun h65 => ?_)
                · refine G_iload dX10_part_71 rfl ?_
                  refine Gn_if_ne (tgt := 85) dX10_part_73 (by decide) (by omega) (fun h73 => ?_) (fun h73 => ?_)
                  · refine G_iload dX10_part_85 rfl ?_
                    refine G_iconst (v := (nI 1)) dX10_part_87 (by decide) ?_
                    refine Gn_icmp_ne (tgt := 99) dX10_part_88 (by decide) (by omega) (by omega) (fun h88 => ?_) (fun h88 => ?_)
                    · refine G_iload dX10_part_99 rfl ?_
                      refine G_iconst (v := (nI 2)) dX10_part_101 (by decide) ?_
                      refine Gn_icmp_ne (tgt := 113) dX10_part_102 (by decide) (by omega) (by omega) (fun h102 => ?_) (fun h102 => ?_)
                      · refine G_aload_n dX10_part_113 rfl rfl ?_
                        refine G_iload_n dX10_part_114 rfl rfl ?_
                        refine G_callVi (ν := uX10_hiddenOf) (As := [.inl (nI r)]) dX10_part_115 nX10_199 kX10_hiddenOf rfl rfl rfl rfl rfl (Nat.le_of_ble_eq_true rfl) (y_hiddenOf hs3 hk hO3 v2 hW3 (by omega)) ?_
                        rintro _ M8 ⟨rfl, e9⟩
                        refine G_iret dX10_part_118 rfl rfl ?_
                        exact PYq hY0 hF0 (FY_t (FY_t (FY_L hR2) (FY_T hF3)) (FY_T (R69_T e9))) ((qPart_is hf hv (by decide) (show r < (psS (rwG s.2.1 v f)).1 by assumption) hb2).trans (parV_3 (show r + 1 < (psS (rwS (labF s.2.1) v f (s.2.1 0) (s.2.1 1))).1 by omega)))
                      · omega
                    · omega
                  · omega
                · refine G_bipush (v := ((-9))) dX10_part_68 (by decide) ?_
                  refine G_iret dX10_part_70 rfl rfl ?_
                  exact PYq hY0 hF0 (FY_t (FY_L hR2) (FY_T hF3)) ((qPart_is hf hv (by decide) (show r < (psS (rwG s.2.1 v f)).1 by assumption) hb2).trans (parV_3n (show ¬ r + 1 < (psS (rwS (labF s.2.1) v f (s.2.1 0) (s.2.1 1))).1 by omega)))
        · refine G_iconst (v := ((-1))) dX10_part_36 (by decide) ?_
          refine G_iret dX10_part_37 rfl rfl ?_
          exact PYq hY0 hF0 (FY_L hR2) (by rw [qPart, cI_f (fun q => dec_niff.mp h33 q.2.2.2)])
theorem FAm_T {n : Nat} {dr wt fg : Nat → Nat} {M M1 : Mem} (h : FAm n dr wt fg M) (hF : FT M M1) : FAm n dr wt fg M1 := by
  unfold FAm
  rw [hF.2 8 (by decide) (by decide) (by decide), hF.1 56 (by decide) (by decide)]
  exact h
theorem agr_s {g : Nat → Nat} {k f : Nat} {dr wt fg : Nat → Nat} : agr g (k + 1) dr wt fg f ↔ agr g k dr wt fg f ∧ figG g (dr k) f (wt k) = fg k := by
  constructor
  · exact fun h => ⟨fun i hi => h i (by omega), h k (by omega)⟩
  · rintro ⟨h1, h2⟩ i hi
    rcases (show i < k ∨ i = k by omega) with z | z
    · exact h1 i z
    · subst z; exact h2
theorem agr_le {g : Nat → Nat} {k n f : Nat} {dr wt fg : Nat → Nat} (h : k ≤ n) (ha : agr g n dr wt fg f) : agr g k dr wt fg f := fun i hi => ha i (by omega)
theorem ly_isSo {d f n : Nat} {dr wt fg : Nat → Nat} {g : Nat → Nat} {M : Mem} (hs : hS g (M 51)) (hk : gok g) (hO : FOg g M) (hf : f < labN g) (hFA : FAm n dr wt fg M) : ∀ (k k0 : Nat) (M1 : Mem), n - k0 = k → k0 ≤ n → FT M M1 → FOg g M1 → G l α D cA uX10_isSo none (d + 5) (fun r M1 => r = .inl (bI (dec (agr g n dr wt fg f))) ∧ FT M M1 ∧ FOg g M1) 4 [some (.inr 50), some (.inl (nI f)), some (.inl (bI (dec (agr g k0 dr wt fg f)))), some (.inl (nI k0))] [] M1 := by
  intro k
  induction k using Nat.strongRecOn with
  | _ k ih => ?_
  intro k0 M1 hkk hk0 hF hO1
  have hFA1 := FAm_T hFA hF
  have hn6 := hFA.2.1
  refine G_iload_n dX10_isSo_4 rfl rfl ?_
  refine G_aload_n dX10_isSo_5 rfl rfl ?_
  refine G_getI (v := (nI n)) dX10_isSo_6 fX10_262 rfl rfl hFA1.1 ?_
  refine Gn_icmp_ge (tgt := 64) dX10_isSo_9 (by decide) (by omega) (by omega) (fun h9 => ?_) (fun h9 => ?_)
  · refine G_iload_n dX10_isSo_64 rfl rfl ?_
    refine G_iret dX10_isSo_65 rfl bI_nar ?_
    exact ⟨by rw [show dec (agr g k0 dr wt fg f) = dec (agr g n dr wt fg f) from by rw [show k0 = n by omega]], hF, hO1⟩
  · refine G_iload_n dX10_isSo_12 rfl rfl ?_
    refine Gb_if_eq (tgt := 64) dX10_isSo_13 (by decide) (fun h13 => ?_) (fun h13 => ?_)
    · refine G_iload_n dX10_isSo_64 rfl rfl ?_
      refine G_iret dX10_isSo_65 rfl bI_nar ?_
      exact ⟨by rw [show dec (agr g k0 dr wt fg f) = dec (agr g n dr wt fg f) from by rw [h13]; exact (dec_f (fun q => dec_niff.mp h13 (agr_le hk0 q))).symm], hF, hO1⟩
    · have hA := hFA1.2.2 k0 (by omega)
      refine G_aload_n dX10_isSo_16 rfl rfl ?_
      refine G_iload_n dX10_isSo_17 rfl rfl ?_
      refine G_aload_n dX10_isSo_18 rfl rfl ?_
      refine G_getR (j := 56) dX10_isSo_19 fX10_26 rfl rfl ?_
      refine G_iconst (v := (nI 3)) dX10_isSo_22 (by decide) ?_
      refine G_iload_n dX10_isSo_23 rfl rfl ?_
      refine G_imul (v := (nI (3 * k0))) dX10_isSo_24 (pk_mul _ _) ?_
      refine G_iald (k := 3 * k0) (v := (nI (dr k0))) dX10_isSo_25 rfl (vp_in_nI (by omega) (by omega)) (nI_clamp (by omega)) hA.1.1 ?_
      refine G_aload_n dX10_isSo_26 rfl rfl ?_
      refine G_getR (j := 56) dX10_isSo_27 fX10_26 rfl rfl ?_
      refine G_iconst (v := (nI 3)) dX10_isSo_30 (by decide) ?_
      refine G_iload_n dX10_isSo_31 rfl rfl ?_
      refine G_imul (v := (nI (3 * k0))) dX10_isSo_32 (pk_mul _ _) ?_
      refine G_iconst (v := (nI 1)) dX10_isSo_33 (by decide) ?_
      refine G_iadd (v := (nI ((3 * k0) + 1))) dX10_isSo_34 (nI_add _ _) ?_
      refine G_iald (k := (3 * k0) + 1) (v := (nI (wt k0))) dX10_isSo_35 rfl (vp_in_nI (by omega) (by omega)) (nI_clamp (by omega)) hA.2.1.1 ?_
      refine G_callVi (ν := uX10_toldOf) (As := [.inl (nI f), .inl (nI (dr k0)), .inl (nI (wt k0))]) dX10_isSo_36 nX10_214 kX10_toldOf rfl rfl rfl rfl rfl (Nat.le_of_ble_eq_true rfl) (y_toldOf (FT_s hF hs) hk hO1 hA.1.2 hf hA.2.1.2) ?_
      rintro _ M2 ⟨rfl, hF2, hO2⟩
      have hfl := figG_lt (w := dr k0) (f := f) hk hA.2.1.2
      refine G_aload_n dX10_isSo_39 rfl rfl ?_
      refine G_getR (j := 56) dX10_isSo_40 fX10_26 rfl rfl ?_
      refine G_iconst (v := (nI 3)) dX10_isSo_43 (by decide) ?_
      refine G_iload_n dX10_isSo_44 rfl rfl ?_
      refine G_imul (v := (nI (3 * k0))) dX10_isSo_45 (pk_mul _ _) ?_
      refine G_iconst (v := (nI 2)) dX10_isSo_46 (by decide) ?_
      refine G_iadd (v := (nI ((3 * k0) + 2))) dX10_isSo_47 (nI_add _ _) ?_
      refine G_iald (k := (3 * k0) + 2) (v := (nI (fg k0))) dX10_isSo_48 rfl (vp_in_nI (by omega) (by omega)) (nI_clamp (by omega)) ((FAm_T hFA1 hF2).2.2 k0 (by omega)).2.2.1 ?_
      have hfgb := hA.2.2.2
      refine Gn_icmp_ne (tgt := 56) dX10_isSo_49 (by decide) (by omega) (by omega) (fun h49 => ?_) (fun h49 => ?_)
      · refine G_iconst (v := (nI 0)) dX10_isSo_56 (by decide) ?_
        refine G_istore_n (L2 := [some (.inr 50), some (.inl (nI f)), some (.inl (nI 0)), some (.inl (nI k0))]) dX10_isSo_57 rfl (Nat.le_of_ble_eq_true rfl) rfl ?_
        refine G_iinc (v := (nI (k0 + 1))) (L2 := [some (.inr 50), some (.inl (nI f)), some (.inl (nI 0)), some (.inl (nI (k0 + 1)))]) dX10_isSo_58 rfl (nI_1 _) rfl ?_
        refine G_goto (tgt := 4) dX10_isSo_61 (by decide) ?_
        rw [show nI 0 = bI (dec (agr g (k0 + 1) dr wt fg f)) from bI_df (fun q => h49 (agr_s.mp q).2)]
        exact ih (n - (k0 + 1)) (by omega) (k0 + 1) M2 rfl (by omega) (FT_t hF hF2) hO2
      · refine G_iconst (v := (nI 1)) dX10_isSo_52 (by decide) ?_
        refine G_goto (tgt := 57) dX10_isSo_53 (by decide) ?_
        refine G_istore_n (L2 := [some (.inr 50), some (.inl (nI f)), some (.inl (nI 1)), some (.inl (nI k0))]) dX10_isSo_57 rfl (Nat.le_of_ble_eq_true rfl) rfl ?_
        refine G_iinc (v := (nI (k0 + 1))) (L2 := [some (.inr 50), some (.inl (nI f)), some (.inl (nI 1)), some (.inl (nI (k0 + 1)))]) dX10_isSo_58 rfl (nI_1 _) rfl ?_
        refine G_goto (tgt := 4) dX10_isSo_61 (by decide) ?_
        rw [show nI 1 = bI (dec (agr g (k0 + 1) dr wt fg f)) from bI_dt (agr_s.mpr ⟨dec_iff.mp h13, h49⟩)]
        exact ih (n - (k0 + 1)) (by omega) (k0 + 1) M2 rfl (by omega) (FT_t hF hF2) hO2
theorem y_isSo {d f n : Nat} {dr wt fg : Nat → Nat} {g : Nat → Nat} {M : Mem} (hs : hS g (M 51)) (hk : gok g) (hO : FOg g M) (hf : f < labN g) (hFA : FAm n dr wt fg M) : Call l α D cA uX10_isSo (d + 5) [.inr 50, .inl (nI f)] M (fun r M1 => r = .inl (bI (dec (agr g n dr wt fg f))) ∧ FT M M1 ∧ FOg g M1) := by
  refine Call.of kX10_isSo.1 (Nat.le_of_ble_eq_true rfl) ?_
  refine G_iconst (v := (bI (dec (agr g 0 dr wt fg f)))) dX10_isSo_0 (bI_dt (fun i hi => absurd hi (Nat.not_lt_zero _))) ?_
  refine G_istore_n (L2 := [some (.inr 50), some (.inl (nI f)), some (.inl (bI (dec (agr g 0 dr wt fg f)))), none]) dX10_isSo_1 rfl (Nat.le_of_ble_eq_true rfl) rfl ?_
  refine G_iconst (v := (nI 0)) dX10_isSo_2 (by decide) ?_
  refine G_istore_n (L2 := [some (.inr 50), some (.inl (nI f)), some (.inl (bI (dec (agr g 0 dr wt fg f)))), some (.inl (nI 0))]) dX10_isSo_3 rfl (Nat.le_of_ble_eq_true rfl) rfl ?_
  exact ly_isSo hs hk hO hf hFA _ 0 M rfl (Nat.zero_le _) FT_r hO
theorem ly_which {d : Nat} {s : AS} {M M0 M2 : Mem} {w0 : Int32} (hw : inI 0 1 w0) (hY0 : YR s M0) (hF0 : FY M M0) (hR2 : FRL M0 M2) (hO2 : FOg s.2.1 M2) : ∀ (k i : Nat) (M1 : Mem), labN s.2.1 - i = k → i ≤ labN s.2.1 → FT M2 M1 → FOg s.2.1 M1 → G l α D cA uX10_which none (d + 6) (PY M (qWhich s.2.1 s.2.2.2.2 w0, s)) 28 [some (.inr 50), some (.inl w0), some (.inl (nI (fb_ct (agB s.2.1 s.2.2.2.2) i))), some (.inl (oI (fnd (agB s.2.1 s.2.2.2.2) i))), some (.inl (nI i))] [] M1 := by
  obtain ⟨hok, hs2, hPA, hKE, hFA, hTB⟩ := YR_Y hY0 (FY_L hR2)
  have hk := hok.1
  have hL := labN_48 (g := s.2.1)
  intro k
  induction k using Nat.strongRecOn with
  | _ k ih => ?_
  intro i M1 hkk hi hF hO1
  have hct := fb_ct_le (agB s.2.1 s.2.2.2.2) i
  refine G_iload dX10_which_28 rfl ?_
  refine G_aload_n dX10_which_30 rfl rfl ?_
  refine G_getI (v := (nI (labN s.2.1))) dX10_which_31 fX10_160 rfl rfl hO1.2 ?_
  refine Gn_icmp_ge (tgt := 66) dX10_which_34 (by decide) (by omega) (by omega) (fun h34 => ?_) (fun h34 => ?_)
  · refine G_iload_n dX10_which_66 rfl rfl ?_
    refine G_if_ne (tgt := 74) dX10_which_67 (by decide) (fun h67 => ?_) (fun h67 => ?_)
    · refine G_iload_n dX10_which_74 rfl rfl ?_
      refine G_iret dX10_which_75 rfl rfl ?_
      have hi : i = labN s.2.1 := by omega
      subst hi
      exact PYq hY0 hF0 (FY_t (FY_L hR2) (FY_T hF)) (by rw [qWhich, cI_t hw, cI_f (show ¬ w0 = nI 0 from h67)])
    · refine G_iload_n dX10_which_70 rfl rfl ?_
      refine G_goto (tgt := 75) dX10_which_71 (by decide) ?_
      refine G_iret dX10_which_75 rfl rfl ?_
      have hi : i = labN s.2.1 := by omega
      subst hi
      exact PYq hY0 hF0 (FY_t (FY_L hR2) (FY_T hF)) (by rw [qWhich, cI_t hw, cI_t (show w0 = nI 0 from h67)])
  · refine G_aload_n dX10_which_37 rfl rfl ?_
    refine G_iload dX10_which_38 rfl ?_
    refine G_callVi (ν := uX10_isSo) (As := [.inl (nI i)]) dX10_which_40 nX10_265 kX10_isSo rfl rfl rfl rfl rfl (Nat.le_of_ble_eq_true rfl) (y_isSo (FT_s hF hs2) hk hO1 (by omega) (FAm_T hFA hF)) ?_
    rintro _ M8 ⟨rfl, e9, hO8⟩
    rw [show dec (agr s.2.1 s.2.2.2.2.1 s.2.2.2.2.2.1 s.2.2.2.2.2.2.1 s.2.2.2.2.2.2.2 i) = (agB s.2.1 s.2.2.2.2) i from rfl]
    refine Gb_if_eq (tgt := 60) dX10_which_43 (by decide) (fun h43 => ?_) (fun h43 => ?_)
    · refine G_iinc (v := (nI (i + 1))) (L2 := [some (.inr 50), some (.inl w0), some (.inl (nI (fb_ct (agB s.2.1 s.2.2.2.2) i))), some (.inl (oI (fnd (agB s.2.1 s.2.2.2.2) i))), some (.inl (nI (i + 1)))]) dX10_which_60 rfl (nI_1 _) rfl ?_
      refine G_goto (tgt := 28) dX10_which_63 (by decide) ?_
      rw [show nI (fb_ct (agB s.2.1 s.2.2.2.2) i) = nI (fb_ct (agB s.2.1 s.2.2.2.2) (i + 1)) by rw [ct_s0 h43], show oI (fnd (agB s.2.1 s.2.2.2.2) i) = oI (fnd (agB s.2.1 s.2.2.2.2) (i + 1)) by rw [fnd_s3 h43]]
      exact ih (labN s.2.1 - (i + 1)) (by omega) (i + 1) M8 rfl (by omega) (FT_t hF e9) hO8
    · refine G_iload_n dX10_which_46 rfl rfl ?_
      refine Gn_if_ne (tgt := 55) dX10_which_47 (by decide) (by omega) (fun h47 => ?_) (fun h47 => ?_)
      · refine G_iload_n dX10_which_55 rfl rfl ?_
        refine G_istore_n (L2 := [some (.inr 50), some (.inl w0), some (.inl (nI (fb_ct (agB s.2.1 s.2.2.2.2) i))), some (.inl (oI (fnd (agB s.2.1 s.2.2.2.2) i))), some (.inl (nI i))]) dX10_which_56 rfl (Nat.le_of_ble_eq_true rfl) rfl ?_
        refine G_iinc (v := (nI (fb_ct (agB s.2.1 s.2.2.2.2) i + 1))) (L2 := [some (.inr 50), some (.inl w0), some (.inl (nI (fb_ct (agB s.2.1 s.2.2.2.2) i + 1))), some (.inl (oI (fnd (agB s.2.1 s.2.2.2.2) i))), some (.inl (nI i))]) dX10_which_57 rfl (nI_1 _) rfl ?_
        refine G_iinc (v := (nI (i + 1))) (L2 := [some (.inr 50), some (.inl w0), some (.inl (nI (fb_ct (agB s.2.1 s.2.2.2.2) i + 1))), some (.inl (oI (fnd (agB s.2.1 s.2.2.2.2) i))), some (.inl (nI (i + 1)))]) dX10_which_60 rfl (nI_1 _) rfl ?_
        refine G_goto (tgt := 28) dX10_which_63 (by decide) ?_
        obtain ⟨b, hb⟩ : ∃ b, fnd (agB s.2.1 s.2.2.2.2) i = some b := by
          cases hq : fnd (agB s.2.1 s.2.2.2.2) i with
          | none => exact absurd ((fnd_ct i).mp hq) h47
          | some b => exact ⟨b, rfl⟩
        rw [show nI (fb_ct (agB s.2.1 s.2.2.2.2) i + 1) = nI (fb_ct (agB s.2.1 s.2.2.2.2) (i + 1)) by rw [ct_s1 h43], show oI (fnd (agB s.2.1 s.2.2.2.2) i) = oI (fnd (agB s.2.1 s.2.2.2.2) (i + 1)) by rw [hb, fnd_s2 hb]]
        exact ih (labN s.2.1 - (i + 1)) (by omega) (i + 1) M8 rfl (by omega) (FT_t hF e9) hO8
      · refine G_iload dX10_which_50 rfl ?_
        refine G_goto (tgt := 56) dX10_which_52 (by decide) ?_
        refine G_istore_n (L2 := [some (.inr 50), some (.inl w0), some (.inl (nI (fb_ct (agB s.2.1 s.2.2.2.2) i))), some (.inl (nI i)), some (.inl (nI i))]) dX10_which_56 rfl (Nat.le_of_ble_eq_true rfl) rfl ?_
        refine G_iinc (v := (nI (fb_ct (agB s.2.1 s.2.2.2.2) i + 1))) (L2 := [some (.inr 50), some (.inl w0), some (.inl (nI (fb_ct (agB s.2.1 s.2.2.2.2) i + 1))), some (.inl (nI i)), some (.inl (nI i))]) dX10_which_57 rfl (nI_1 _) rfl ?_
        refine G_iinc (v := (nI (i + 1))) (L2 := [some (.inr 50), some (.inl w0), some (.inl (nI (fb_ct (agB s.2.1 s.2.2.2.2) i + 1))), some (.inl (nI i)), some (.inl (nI (i + 1)))]) dX10_which_60 rfl (nI_1 _) rfl ?_
        refine G_goto (tgt := 28) dX10_which_63 (by decide) ?_
        have hb := (fnd_ct i).mpr h47
        rw [show nI (fb_ct (agB s.2.1 s.2.2.2.2) i + 1) = nI (fb_ct (agB s.2.1 s.2.2.2.2) (i + 1)) by rw [ct_s1 h43], show nI i = oI (fnd (agB s.2.1 s.2.2.2.2) (i + 1)) by rw [fnd_s1 h43 hb]; rfl]
        exact ih (labN s.2.1 - (i + 1)) (by omega) (i + 1) M8 rfl (by omega) (FT_t hF e9) hO8
theorem y_which {d : Nat} {s : AS} {M : Mem} {w0 : Int32} (hY : YR s M) : Call l α D cA uX10_which (d + 6) [.inr 50, .inl w0] M (PY M (qWhich s.2.1 s.2.2.2.2 w0, s)) := by
  refine Call.of kX10_which.1 (Nat.le_of_ble_eq_true rfl) ?_
  refine G_aload_n dX10_which_0 rfl rfl ?_
  refine G_iconst (v := (nI 0)) dX10_which_1 (by decide) ?_
  refine G_put dX10_which_2 pX10_81 rfl rfl ?_
  have hF0 : FY M (ms M 50 0 (nI 0)) := FY_0
  generalize ms M 50 0 (nI 0) = M0 at hF0 ⊢
  have hY0 := YR_Y hY hF0
  obtain ⟨hok, hs, hPA, hKE, hFA, hTB⟩ := id hY0
  have hk := hok.1
  refine G_iload_n dX10_which_5 rfl rfl ?_
  refine G_iconst (v := (nI 0)) dX10_which_6 (by decide) ?_
  refine G_iconst (v := (nI 1)) dX10_which_7 (by decide) ?_
  refine G_callSi (ν := uX10_in) (As := [.inl w0, .inl (nI 0), .inl (nI 1)]) dX10_which_8 nX10_85 kX10_in rfl rfl rfl (Nat.le_of_ble_eq_true rfl) (y_inI (lo := 0) (hi := 1)) ?_
  rintro _ M8 ⟨rfl, e9⟩
  subst M8
  refine Gb_if_ne (tgt := 16) dX10_which_11 (by decide) (fun h11 => ?_) (fun h11 => ?_)
  · refine G_aload_n dX10_which_16 rfl rfl ?_
    refine G_callVv (ν := uX10_laysFields) (As := []) dX10_which_17 nX10_228 kX10_laysFields rfl rfl rfl rfl rfl (Nat.le_of_ble_eq_true rfl) (y_laysFields hs hk) ?_
    rintro _ M2 ⟨hR2, hO2⟩
    refine G_iconst (v := (nI 0)) dX10_which_20 (by decide) ?_
    refine G_istore_n (L2 := [some (.inr 50), some (.inl w0), some (.inl (nI 0)), none, none]) dX10_which_21 rfl (Nat.le_of_ble_eq_true rfl) rfl ?_
    refine G_bipush (v := ((-9))) dX10_which_22 (by decide) ?_
    refine G_istore_n (L2 := [some (.inr 50), some (.inl w0), some (.inl (nI 0)), some (.inl (-9)), none]) dX10_which_24 rfl (Nat.le_of_ble_eq_true rfl) rfl ?_
    refine G_iconst (v := (nI 0)) dX10_which_25 (by decide) ?_
    refine G_istore (L2 := [some (.inr 50), some (.inl w0), some (.inl (nI 0)), some (.inl (-9)), some (.inl (nI 0))]) dX10_which_26 (Nat.le_of_ble_eq_true rfl) rfl ?_
    exact ly_which (dec_iff.mp h11) hY0 hF0 hR2 hO2 _ 0 M2 rfl (Nat.zero_le _) FT_r hO2
  · refine G_iconst (v := ((-1))) dX10_which_14 (by decide) ?_
    refine G_iret dX10_which_15 rfl rfl ?_
    exact PYq hY0 hF0 FY_r (by rw [qWhich, cI_f (dec_niff.mp h11)])
theorem y_count {d : Nat} {s : AS} {M : Mem} {w0 : Int32} (hY : YR s M) : Call l α D cA uX10_count (d + 4) [.inr 50, .inl w0] M (PY M (qCount s w0, s)) := by
  refine Call.of kX10_count.1 (Nat.le_of_ble_eq_true rfl) ?_
  refine G_aload_n dX10_count_0 rfl rfl ?_
  refine G_iconst (v := (nI 0)) dX10_count_1 (by decide) ?_
  refine G_put dX10_count_2 pX10_81 rfl rfl ?_
  have hF0 : FY M (ms M 50 0 (nI 0)) := FY_0
  generalize ms M 50 0 (nI 0) = M0 at hF0 ⊢
  have hY0 := YR_Y hY hF0
  obtain ⟨hok, hs, hPA, hKE, hFA, hTB⟩ := id hY0
  have hk := hok.1
  refine G_iload_n dX10_count_5 rfl rfl ?_
  rcases (cases_8 (w := w0)) with rfl | rfl | rfl | rfl | rfl | rfl | rfl | rfl | rfl | hn
  · skip
    refine G_swIn (tgt := 56) dX10_count_6 (by decide) (by decide) rfl (by decide) ?_
    refine G_aload_n dX10_count_56 rfl rfl ?_
    refine G_getR (j := 51) dX10_count_57 fX10_7 rfl rfl ?_
    refine G_iconst (v := (nI 0)) dX10_count_60 (by decide) ?_
    refine G_iald (k := 0) (v := (nI (s.2.1 0))) dX10_count_61 rfl (vp_in_nI (by decide) (by decide)) rfl (hs.1 0 (by decide)) ?_
    refine G_iret dX10_count_62 rfl rfl ?_
    exact PYq hY0 hF0 FY_r qCount_0
  · skip
    refine G_swIn (tgt := 63) dX10_count_6 (by decide) (by decide) rfl (by decide) ?_
    refine G_aload_n dX10_count_63 rfl rfl ?_
    refine G_getR (j := 51) dX10_count_64 fX10_7 rfl rfl ?_
    refine G_iconst (v := (nI 1)) dX10_count_67 (by decide) ?_
    refine G_iald (k := 1) (v := (nI (s.2.1 1))) dX10_count_68 rfl (vp_in_nI (by decide) (by decide)) rfl (hs.1 1 (by decide)) ?_
    refine G_iret dX10_count_69 rfl rfl ?_
    exact PYq hY0 hF0 FY_r qCount_1
  · skip
    refine G_swIn (tgt := 70) dX10_count_6 (by decide) (by decide) rfl (by decide) ?_
    refine G_aload_n dX10_count_70 rfl rfl ?_
    refine G_callVi (ν := uX10_fieldsNow) (As := []) dX10_count_71 nX10_268 kX10_fieldsNow rfl rfl rfl rfl rfl (Nat.le_of_ble_eq_true rfl) (y_fieldsNow hs hk) ?_
    rintro _ M8 ⟨rfl, e9, -⟩
    refine G_iret dX10_count_74 rfl rfl ?_
    exact PYq hY0 hF0 (FY_L e9) qCount_2
  · skip
    refine G_swIn (tgt := 75) dX10_count_6 (by decide) (by decide) rfl (by decide) ?_
    refine G_aload_n dX10_count_75 rfl rfl ?_
    refine G_getR (j := 51) dX10_count_76 fX10_7 rfl rfl ?_
    refine G_iconst (v := (nI 2)) dX10_count_79 (by decide) ?_
    refine G_iald (k := 2) (v := (nI (s.2.1 2))) dX10_count_80 rfl (vp_in_nI (by decide) (by decide)) rfl (hs.1 2 (by decide)) ?_
    refine G_iret dX10_count_81 rfl rfl ?_
    exact PYq hY0 hF0 FY_r qCount_3
  · skip
    refine G_swIn (tgt := 82) dX10_count_6 (by decide) (by decide) rfl (by decide) ?_
    refine G_aload_n dX10_count_82 rfl rfl ?_
    refine G_getR (j := 51) dX10_count_83 fX10_7 rfl rfl ?_
    refine G_iconst (v := (nI 3)) dX10_count_86 (by decide) ?_
    refine G_iald (k := 3) (v := (nI (s.2.1 3))) dX10_count_87 rfl (vp_in_nI (by decide) (by decide)) rfl (hs.1 3 (by decide)) ?_
    refine G_iret dX10_count_88 rfl rfl ?_
    exact PYq hY0 hF0 FY_r qCount_4
  · skip
    refine G_swIn (tgt := 89) dX10_count_6 (by decide) (by decide) rfl (by decide) ?_
    refine G_aload_n dX10_count_89 rfl rfl ?_
    refine G_callVi (ν := uX10_coloured) (As := []) dX10_count_90 nX10_271 kX10_coloured rfl rfl rfl rfl rfl (Nat.le_of_ble_eq_true rfl) (y_coloured hs hk) ?_
    rintro _ M8 ⟨rfl, e9⟩
    subst M8
    refine G_iret dX10_count_93 rfl rfl ?_
    exact PYq hY0 hF0 FY_r qCount_5
  · skip
    refine G_swIn (tgt := 94) dX10_count_6 (by decide) (by decide) rfl (by decide) ?_
    refine G_aload_n dX10_count_94 rfl rfl ?_
    refine G_getI (v := (nI (s.2.2.2.2.1))) dX10_count_95 fX10_262 rfl rfl hFA.1 ?_
    refine G_iret dX10_count_98 rfl rfl ?_
    exact PYq hY0 hF0 FY_r qCount_6
  · skip
    refine G_swIn (tgt := 99) dX10_count_6 (by decide) (by decide) rfl (by decide) ?_
    refine G_aload_n dX10_count_99 rfl rfl ?_
    refine G_getI (v := (nI (s.1.1))) dX10_count_100 fX10_89 rfl rfl hTB.1 ?_
    refine G_iret dX10_count_103 rfl rfl ?_
    exact PYq hY0 hF0 FY_r qCount_7
  · skip
    refine G_swIn (tgt := 104) dX10_count_6 (by decide) (by decide) rfl (by decide) ?_
    refine G_aload_n dX10_count_104 rfl rfl ?_
    refine G_getI (v := (nI (s.2.2.1.1))) dX10_count_105 fX10_144 rfl rfl hPA.1 ?_
    refine G_iret dX10_count_108 rfl rfl ?_
    exact PYq hY0 hF0 FY_r qCount_8
  · skip
    refine G_swOut (tgt := 109) dX10_count_6 (sw_out (n := 8) hn (by decide) rfl) (by decide) ?_
    refine G_iconst (v := ((-1))) dX10_count_109 (by decide) ?_
    refine G_iret dX10_count_110 rfl rfl ?_
    exact PYq hY0 hF0 FY_r (qCount_no hn)
end P34
