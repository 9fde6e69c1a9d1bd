/-! SewnFields: the queries -/
section P25
variable {l : Launch} {α : Nat → Nat} {D : va_G} {cA : Nat → ClassId}
theorem dd {P : Prop} [i : Decidable P] : decide P = dec P := by
  by_cases h : P
  · rw [dec_t h, decide_eq_true h]
  · rw [dec_f h, decide_eq_false h]
theorem PXq {s : AS} {M M1 : Mem} {a ans : Int32} (h : XR s M) (hF : FRQ M M1) (e : a = ans) : PX M (a, s) (.inl ans) M1 := by
  subst e
  exact ⟨rfl, XR_Q h hF, fun q hq => hF q (by omega)⟩
theorem c_withinI {d lo hi : Nat} {x : Int32} {M : Mem} : Call l α D cA uX9_within d [.inl x, .inl (nI lo), .inl (nI hi)] M (fun r M1 => r = .inl (bI (dec (inI lo hi x))) ∧ M1 = M) :=
  c_within.mono (by rintro r M1 ⟨rfl, rfl⟩; exact ⟨by rw [dd]; rfl, rfl⟩)
theorem c_hasF {d : Nat} {g : Nat → Nat} {f : Int32} {M : Mem} (hM : MPg g M) : Call l α D cA uX1_has d [.inr 8, .inl f] M (fun r M1 => r = .inl (bI (dec (hasF g f))) ∧ M1 = M) :=
  (c_mhas hM.2.1 labN_48).mono (by rintro r M1 ⟨rfl, rfl⟩; exact ⟨by rw [dd]; rfl, rfl⟩)
theorem c_hasG {d : Nat} {g : Nat → Nat} {x y : Int32} {M : Mem} (hg : hC g (M 2)) (hk : gok g) : Call l α D cA uX0_has (d + 1) [.inr 1, .inl x, .inl y] M (fun r M1 => r = .inl (bI (hasD (g 0) (g 1) x y)) ∧ M1 = M) :=
  c_has (o := 1) (v := 2) rfl rfl (hg 0 (by decide)) (hg 1 (by decide)) hk.1.1 hk.2.1.1 hk.1.2 hk.2.1.2
theorem qField_is {g : Nat → Nat} {f w : Nat} (hf : f < labN g) (hw : w ≤ 7) : qField g (nI f) (nI w) = fldA g f w := by
  have := labN_48 (g := g)
  rw [qField, cI_t ⟨hasF_of hf, inI_of (Nat.zero_le _) hw (by decide)⟩, nN (by omega), nN (by omega)]
theorem qSewn_is {g : Nat → Nat} {f v w : Nat} (hf : f < labN g) (hv : v ≤ 1) (hw : w ≤ 3) : qSewn g (nI f) (nI v) (nI w) = nI (figG g v f w) := by
  have := labN_48 (g := g)
  rw [qSewn, cI_t ⟨hasF_of hf, inI_of (Nat.zero_le _) hv (by decide), inI_of (Nat.zero_le _) hw (by decide)⟩, nN (by omega), nN (by omega), nN (by omega)]
theorem qRow_no {g : Nat → Nat} {f v r w : Nat} (hf : f < labN g) (hv : v ≤ 1) (hw : w ≤ 3) (hr : r < 2 ^ 31) (h : ¬ r < (rwG g v f).1) (hb : (rwG g v f).1 ≤ 48) : qRow g (nI f) (nI v) (nI r) (nI w) = -9 := by
  have := labN_48 (g := g)
  rw [qRow, cI_t ⟨hasF_of hf, inI_of (Nat.zero_le _) hv (by decide), nI_pos' hr, inI_of (Nat.zero_le _) hw (by decide)⟩, nN (by omega), nN (by omega), nN (by omega), cI_f (fun q => h ((nI_ltI hr (by omega)).mp q))]
theorem qRow_is {g : Nat → Nat} {f v r w : Nat} (hf : f < labN g) (hv : v ≤ 1) (hw : w ≤ 3) (h : r < (rwG g v f).1) (hb : (rwG g v f).1 ≤ 48) : qRow g (nI f) (nI v) (nI r) (nI w) = nI (rowV g v f r w) := by
  have := labN_48 (g := g)
  rw [qRow, cI_t ⟨hasF_of hf, inI_of (Nat.zero_le _) hv (by decide), nI_pos' (by omega), inI_of (Nat.zero_le _) hw (by decide)⟩, nN (by omega), nN (by omega), nN (by omega), nN (by omega), cI_t ((nI_ltI (by omega) (by omega)).mpr h)]
theorem qPart_no {g : Nat → Nat} {f v r w : Nat} (hf : f < labN g) (hv : v ≤ 1) (hw : w ≤ 3) (hr : r < 2 ^ 31) (h : ¬ r < (psS (rwG g v f)).1) (hb : (psS (rwG g v f)).1 ≤ 48) : qPart g (nI f) (nI v) (nI r) (nI w) = -9 := by
  have := labN_48 (g := g)
  rw [qPart, cI_t ⟨hasF_of hf, inI_of (Nat.zero_le _) hv (by decide), nI_pos' hr, inI_of (Nat.zero_le _) hw (by decide)⟩, nN (by omega), nN (by omega), cI_f (fun q => h ((nI_ltI hr (by omega)).mp q))]
theorem qPart_is {g : Nat → Nat} {f v r w : Nat} (hf : f < labN g) (hv : v ≤ 1) (hw : w ≤ 3) (h : r < (psS (rwG g v f)).1) (hb : (psS (rwG g v f)).1 ≤ 48) : qPart g (nI f) (nI v) (nI r) (nI w) = parV g v f r w := by
  have := labN_48 (g := g)
  rw [qPart, cI_t ⟨hasF_of hf, inI_of (Nat.zero_le _) hv (by decide), nI_pos' (by omega), inI_of (Nat.zero_le _) hw (by decide)⟩, nN (by omega), nN (by omega), nN (by omega), nN (by omega), cI_t ((nI_ltI (by omega) (by omega)).mpr h)]
theorem rw_48 {g : Nat → Nat} {v f : Nat} (hk : gok g) : (rwG g v f).1 ≤ 48 ∧ (psS (rwG g v f)).1 ≤ 48 := by
  have h := rwS_RB (F := labF g) (w := v) (f := f) hk.1.2 hk.2.1.2
  have h2 := rwS_PI (F := labF g) (w := v) (f := f) (W := g 0) (H := g 1)
  exact ⟨h.1, Nat.le_trans h2.1 h.1⟩
theorem hf_lt {g : Nat → Nat} {f : Nat} (h : f < labN g) : f < 48 := Nat.lt_of_lt_of_le h labN_48
theorem x_field {d : Nat} {s : AS} {M : Mem} {f0 w0 : Int32} (hX : XR s M) : Call l α D cA uX9_field (d + 6) [.inr 0, .inl f0, .inl w0] M (PX M (qField s.2.1 f0 w0, s)) := by
  refine Call.of kX9_field.1 (Nat.le_of_ble_eq_true rfl) ?_
  obtain ⟨hg, hk, hM⟩ := rec_x hX
  refine G_aload_n dX9_field_0 rfl rfl ?_
  refine G_getR (j := 8) dX9_field_1 fX9_33 rfl rfl ?_
  refine G_iload_n dX9_field_4 rfl rfl ?_
  refine G_callVi (ν := uX1_has) (As := [.inl f0]) dX9_field_5 nX9_139 kX1_has rfl rfl rfl rfl rfl (Nat.le_of_ble_eq_true rfl) (c_hasF (g := s.2.1) hM) ?_
  rintro _ M8 ⟨rfl, e9⟩
  subst M8
  refine Gb_if_eq (tgt := 21) dX9_field_8 (by decide) (fun h8 => ?_) (fun h8 => ?_)
  · refine G_iconst (v := ((-1))) dX9_field_21 (by decide) ?_
    refine G_iret dX9_field_22 rfl rfl ?_
    exact PXq hX FRQ_r (by rw [qField, cI_f (fun q => dec_niff.mp h8 q.1)])
  · refine G_iload_n dX9_field_11 rfl rfl ?_
    refine G_iconst (v := (nI 0)) dX9_field_12 (by decide) ?_
    refine G_bipush (v := (nI 7)) dX9_field_13 (by decide) ?_
    refine G_callSi (ν := uX9_within) (As := [.inl w0, .inl (nI 0), .inl (nI 7)]) dX9_field_15 nX9_74 kX9_within rfl rfl rfl (Nat.le_of_ble_eq_true rfl) (c_withinI (lo := 0) (hi := 7)) ?_
    rintro _ M8 ⟨rfl, e9⟩
    subst M8
    refine Gb_if_ne (tgt := 23) dX9_field_18 (by decide) (fun h18 => ?_) (fun h18 => ?_)
    · obtain ⟨f, hf, rfl⟩ := hasF_nI (dec_iff.mp h8)
      obtain ⟨w, -, hw, rfl⟩ := inI_nI (dec_iff.mp h18) (by decide) (by decide)
      rcases (show w = 0 ∨ w = 1 ∨ w = 2 ∨ w = 3 ∨ w = 4 ∨ w = 5 ∨ w = 6 ∨ w = 7 by omega) with rfl | rfl | rfl | rfl | rfl | rfl | rfl | rfl
      · skip
        refine G_iload_n dX9_field_23 rfl rfl ?_
        refine G_swIn (tgt := 72) dX9_field_24 (by decide) (by decide) rfl (by decide) ?_
        refine G_aload_n dX9_field_72 rfl rfl ?_
        refine G_getR (j := 8) dX9_field_73 fX9_33 rfl rfl ?_
        refine G_iload_n dX9_field_76 rfl rfl ?_
        refine G_callVi (ν := uX1_colourOf) (As := [.inl (nI f)]) dX9_field_77 nX9_142 kX1_colourOf rfl rfl rfl rfl rfl (Nat.le_of_ble_eq_true rfl) (c_colourOf (hf_lt hf) (hM.2.2.2 f hf).1) ?_
        rintro _ M8 ⟨rfl, e9⟩
        subst M8
        refine G_iret dX9_field_80 rfl rfl ?_
        exact PXq hX FRQ_r (qField_is hf (by decide))
      · skip
        refine G_iload_n dX9_field_23 rfl rfl ?_
        refine G_swIn (tgt := 81) dX9_field_24 (by decide) (by decide) rfl (by decide) ?_
        refine G_aload_n dX9_field_81 rfl rfl ?_
        refine G_getR (j := 8) dX9_field_82 fX9_33 rfl rfl ?_
        refine G_iload_n dX9_field_85 rfl rfl ?_
        refine G_callVi (ν := uX1_sizeOf) (As := [.inl (nI f)]) dX9_field_86 nX9_145 kX1_sizeOf rfl rfl rfl rfl rfl (Nat.le_of_ble_eq_true rfl) (c_sizeOf (hf_lt hf) (hM.2.2.2 f hf).2.1) ?_
        rintro _ M8 ⟨rfl, e9⟩
        subst M8
        refine G_iret dX9_field_89 rfl rfl ?_
        exact PXq hX FRQ_r (qField_is hf (by decide))
      · skip
        refine G_iload_n dX9_field_23 rfl rfl ?_
        refine G_swIn (tgt := 90) dX9_field_24 (by decide) (by decide) rfl (by decide) ?_
        refine G_aload_n dX9_field_90 rfl rfl ?_
        refine G_getR (j := 1) dX9_field_91 fX9_12 rfl rfl ?_
        refine G_aload_n dX9_field_94 rfl rfl ?_
        refine G_getR (j := 8) dX9_field_95 fX9_33 rfl rfl ?_
        refine G_iload_n dX9_field_98 rfl rfl ?_
        refine G_callVi (ν := uX1_smallestOf) (As := [.inl (nI f)]) dX9_field_99 nX9_148 kX1_smallestOf rfl rfl rfl rfl rfl (Nat.le_of_ble_eq_true rfl) (c_smallestOf (hf_lt hf) (hM.2.2.2 f hf).2.2) ?_
        rintro _ M8 ⟨rfl, e9⟩
        subst M8
        refine G_callVi (ν := uX0_numberOf) (As := [.inl (nI (labR s.2.1 f))]) dX9_field_102 nX9_151 kX0_numberOf rfl rfl rfl rfl rfl (Nat.le_of_ble_eq_true rfl) (c_numberOf (o := 1) (v := 2) rfl rfl (hg 0 (by decide)) (col_in hk hf).2.2 hk.1.2) ?_
        rintro _ M8 ⟨rfl, e9⟩
        subst M8
        refine G_iret dX9_field_105 rfl rfl ?_
        exact PXq hX FRQ_r (qField_is hf (by decide))
      · skip
        refine G_iload_n dX9_field_23 rfl rfl ?_
        refine G_swIn (tgt := 106) dX9_field_24 (by decide) (by decide) rfl (by decide) ?_
        refine G_aload_n dX9_field_106 rfl rfl ?_
        refine G_iload_n dX9_field_107 rfl rfl ?_
        refine G_callVi (ν := uX9_betterWay) (As := [.inl (nI f)]) dX9_field_108 nX9_154 kX9_betterWay rfl rfl rfl rfl rfl (Nat.le_of_ble_eq_true rfl) (c_better hg hk hM hf) ?_
        rintro _ M8 ⟨rfl, e9⟩
        refine G_iret dX9_field_111 rfl rfl ?_
        exact PXq hX (FRQ_A e9) (qField_is hf (by decide))
      · skip
        refine G_iload_n dX9_field_23 rfl rfl ?_
        refine G_swIn (tgt := 121) dX9_field_24 (by decide) (by decide) rfl (by decide) ?_
        refine G_aload_n dX9_field_121 rfl rfl ?_
        refine G_iload_n dX9_field_122 rfl rfl ?_
        refine G_iload_n dX9_field_123 rfl rfl ?_
        refine G_callVi (ν := uX9_covered) (As := [.inl (nI f), .inl (nI 4)]) dX9_field_124 nX9_160 kX9_covered rfl rfl rfl rfl rfl (Nat.le_of_ble_eq_true rfl) (c_covered_4 hg hk hM hf) ?_
        rintro _ M8 ⟨rfl, e9⟩
        refine G_iret dX9_field_127 rfl rfl ?_
        exact PXq hX (FRQ_A e9) (qField_is hf (by decide))
      · skip
        refine G_iload_n dX9_field_23 rfl rfl ?_
        refine G_swIn (tgt := 121) dX9_field_24 (by decide) (by decide) rfl (by decide) ?_
        refine G_aload_n dX9_field_121 rfl rfl ?_
        refine G_iload_n dX9_field_122 rfl rfl ?_
        refine G_iload_n dX9_field_123 rfl rfl ?_
        refine G_callVi (ν := uX9_covered) (As := [.inl (nI f), .inl (nI 5)]) dX9_field_124 nX9_160 kX9_covered rfl rfl rfl rfl rfl (Nat.le_of_ble_eq_true rfl) (c_covered_5 hg hk hM hf) ?_
        rintro _ M8 ⟨rfl, e9⟩
        refine G_iret dX9_field_127 rfl rfl ?_
        exact PXq hX (FRQ_A e9) (qField_is hf (by decide))
      · skip
        refine G_iload_n dX9_field_23 rfl rfl ?_
        refine G_swIn (tgt := 121) dX9_field_24 (by decide) (by decide) rfl (by decide) ?_
        refine G_aload_n dX9_field_121 rfl rfl ?_
        refine G_iload_n dX9_field_122 rfl rfl ?_
        refine G_iload_n dX9_field_123 rfl rfl ?_
        refine G_callVi (ν := uX9_covered) (As := [.inl (nI f), .inl (nI 6)]) dX9_field_124 nX9_160 kX9_covered rfl rfl rfl rfl rfl (Nat.le_of_ble_eq_true rfl) (c_covered_6 hg hk hM hf) ?_
        rintro _ M8 ⟨rfl, e9⟩
        refine G_iret dX9_field_127 rfl rfl ?_
        exact PXq hX (FRQ_A e9) (qField_is hf (by decide))
      · skip
        refine G_iload_n dX9_field_23 rfl rfl ?_
        refine G_swIn (tgt := 112) dX9_field_24 (by decide) (by decide) rfl (by decide) ?_
        refine G_aload_n dX9_field_112 rfl rfl ?_
        refine G_getR (j := 8) dX9_field_113 fX9_33 rfl rfl ?_
        refine G_iload_n dX9_field_116 rfl rfl ?_
        refine G_callVi (ν := uX1_touching) (As := [.inl (nI f)]) dX9_field_117 nX9_157 kX1_touching rfl rfl rfl rfl rfl (Nat.le_of_ble_eq_true rfl) (c_touching hM.1 labF_lt (hf_lt hf)) ?_
        rintro _ M8 ⟨rfl, b9, e9⟩
        refine G_iret dX9_field_120 rfl rfl ?_
        exact PXq hX (fun q hq => by rw [e9]; exact mo_q (by omega)) (qField_is hf (by decide))
    · refine G_iconst (v := ((-1))) dX9_field_21 (by decide) ?_
      refine G_iret dX9_field_22 rfl rfl ?_
      exact PXq hX FRQ_r (by rw [qField, cI_f (fun q => dec_niff.mp h18 q.2)])
theorem hasD_of {w h x y : Nat} (hx : x < w) (hy : y < h) (w8 : w ≤ 8) (h6 : h ≤ 6) : hasD w h (nI x) (nI y) = true := by
  unfold hasD
  rw [inr_nI (Nat.zero_le _) (by omega) (by omega), inr_nI (Nat.zero_le _) (by omega) (by omega)]
  rfl
theorem qCell_c {g : Nat → Nat} {x y : Nat} (hk : gok g) (hx : x < g 0) (hy : y < g 1) : qCell g (nI x) (nI y) (nI 0) = nI (g (12 + (8 * y + x))) := by
  have := hk.1.2
  have := hk.2.1.2
  rw [qCell, cI_t ⟨hasD_of hx hy hk.1.2 hk.2.1.2, inI_of (Nat.zero_le _) (by decide) (by decide)⟩, cI_t rfl, nN (by omega), nN (by omega)]
theorem qCell_f {g : Nat → Nat} {x y : Nat} (hk : gok g) (hx : x < g 0) (hy : y < g 1) : qCell g (nI x) (nI y) (nI 1) = oI (labF g (8 * y + x)) := by
  have := hk.1.2
  have := hk.2.1.2
  rw [qCell, cI_t ⟨hasD_of hx hy hk.1.2 hk.2.1.2, inI_of (Nat.zero_le _) (by decide) (by decide)⟩, cI_f (by decide), nN (by omega), nN (by omega)]
theorem x_cell {d : Nat} {s : AS} {M : Mem} {x0 y0 w0 : Int32} (hX : XR s M) : Call l α D cA uX9_cell (d + 2) [.inr 0, .inl x0, .inl y0, .inl w0] M (PX M (qCell s.2.1 x0 y0 w0, s)) := by
  refine Call.of kX9_cell.1 (Nat.le_of_ble_eq_true rfl) ?_
  obtain ⟨hg, hk, hM⟩ := rec_x hX
  refine G_aload_n dX9_cell_0 rfl rfl ?_
  refine G_getR (j := 1) dX9_cell_1 fX9_12 rfl rfl ?_
  refine G_iload_n dX9_cell_4 rfl rfl ?_
  refine G_iload_n dX9_cell_5 rfl rfl ?_
  refine G_callVi (ν := uX0_has) (As := [.inl x0, .inl y0]) dX9_cell_6 nX9_107 kX0_has rfl rfl rfl rfl rfl (Nat.le_of_ble_eq_true rfl) (c_hasG (g := s.2.1) hg hk) ?_
  rintro _ M8 ⟨rfl, e9⟩
  subst M8
  refine Gb_if_eq (tgt := 21) dX9_cell_9 (by decide) (fun h9 => ?_) (fun h9 => ?_)
  · refine G_iconst (v := ((-1))) dX9_cell_21 (by decide) ?_
    refine G_iret dX9_cell_22 rfl rfl ?_
    exact PXq hX FRQ_r (by rw [qCell, cI_f (fun q => notrue h9 q.1)])
  · refine G_iload_n dX9_cell_12 rfl rfl ?_
    refine G_iconst (v := (nI 0)) dX9_cell_13 (by decide) ?_
    refine G_iconst (v := (nI 1)) dX9_cell_14 (by decide) ?_
    refine G_callSi (ν := uX9_within) (As := [.inl w0, .inl (nI 0), .inl (nI 1)]) dX9_cell_15 nX9_74 kX9_within rfl rfl rfl (Nat.le_of_ble_eq_true rfl) (c_withinI (lo := 0) (hi := 1)) ?_
    rintro _ M8 ⟨rfl, e9⟩
    subst M8
    refine Gb_if_ne (tgt := 23) dX9_cell_18 (by decide) (fun h18 => ?_) (fun h18 => ?_)
    · obtain ⟨x, y, hx, hy, rfl, rfl⟩ := hasD_nI h9 hk.1.1 hk.2.1.1 hk.1.2 hk.2.1.2
      obtain ⟨w, -, hw, rfl⟩ := inI_nI (dec_iff.mp h18) (by decide) (by decide)
      have hk1 := hk.1.2
      have hk2 := hk.2.1.2
      rcases (show w = 0 ∨ w = 1 by omega) with rfl | rfl
      · skip
        refine G_iload_n dX9_cell_23 rfl rfl ?_
        refine G_iload_n dX9_cell_24 rfl rfl ?_
        refine G_callSi (ν := uX9_placeOf) (As := [.inl (nI x), .inl (nI y)]) dX9_cell_25 nX9_115 kX9_placeOf rfl rfl rfl (Nat.le_of_ble_eq_true rfl) (c_placeOf (x := x) (y := y) (by omega) (by omega)) ?_
        rintro _ M8 ⟨rfl, e9⟩
        subst M8
        refine G_istore (L2 := [some (.inr 0), some (.inl (nI x)), some (.inl (nI y)), some (.inl (nI 0)), some (.inl (nI (8 * y + x)))]) dX9_cell_28 (Nat.le_of_ble_eq_true rfl) rfl ?_
        refine G_iload_n dX9_cell_30 rfl rfl ?_
        refine Gn_if_ne (tgt := 46) dX9_cell_31 (by decide) (by omega) (fun h31 => ?_) (fun h31 => ?_)
        · omega
        · refine G_aload_n dX9_cell_34 rfl rfl ?_
          refine G_getR (j := 1) dX9_cell_35 fX9_12 rfl rfl ?_
          refine G_iload dX9_cell_38 rfl ?_
          refine G_callVi (ν := uX0_colourAt) (As := [.inl (nI (8 * y + x))]) dX9_cell_40 nX9_132 kX0_colourAt rfl rfl rfl rfl rfl (Nat.le_of_ble_eq_true rfl) (c_colourAt (o := 1) (v := 2) rfl rfl hg (by omega)) ?_
          rintro _ M8 ⟨rfl, e9⟩
          subst M8
          refine G_goto (tgt := 55) dX9_cell_43 (by decide) ?_
          refine G_iret dX9_cell_55 rfl rfl ?_
          exact PXq hX FRQ_r (qCell_c hk hx hy)
      · skip
        refine G_iload_n dX9_cell_23 rfl rfl ?_
        refine G_iload_n dX9_cell_24 rfl rfl ?_
        refine G_callSi (ν := uX9_placeOf) (As := [.inl (nI x), .inl (nI y)]) dX9_cell_25 nX9_115 kX9_placeOf rfl rfl rfl (Nat.le_of_ble_eq_true rfl) (c_placeOf (x := x) (y := y) (by omega) (by omega)) ?_
        rintro _ M8 ⟨rfl, e9⟩
        subst M8
        refine G_istore (L2 := [some (.inr 0), some (.inl (nI x)), some (.inl (nI y)), some (.inl (nI 1)), some (.inl (nI (8 * y + x)))]) dX9_cell_28 (Nat.le_of_ble_eq_true rfl) rfl ?_
        refine G_iload_n dX9_cell_30 rfl rfl ?_
        refine Gn_if_ne (tgt := 46) dX9_cell_31 (by decide) (by omega) (fun h31 => ?_) (fun h31 => ?_)
        · refine G_aload_n dX9_cell_46 rfl rfl ?_
          refine G_getR (j := 8) dX9_cell_47 fX9_33 rfl rfl ?_
          refine G_iload dX9_cell_50 rfl ?_
          refine G_callVi (ν := uX1_fieldAt) (As := [.inl (nI (8 * y + x))]) dX9_cell_52 nX9_136 kX1_fieldAt rfl rfl rfl rfl rfl (Nat.le_of_ble_eq_true rfl) (c_fieldAt (by omega) (hM.1 _ (by omega))) ?_
          rintro _ M8 ⟨rfl, e9⟩
          subst M8
          refine G_iret dX9_cell_55 rfl rfl ?_
          exact PXq hX FRQ_r (qCell_f hk hx hy)
        · omega
    · refine G_iconst (v := ((-1))) dX9_cell_21 (by decide) ?_
      refine G_iret dX9_cell_22 rfl rfl ?_
      exact PXq hX FRQ_r (by rw [qCell, cI_f (fun q => dec_niff.mp h18 q.2)])
theorem x_sewn {d : Nat} {s : AS} {M : Mem} {f0 v0 w0 : Int32} (hX : XR s M) : Call l α D cA uX9_sewn (d + 5) [.inr 0, .inl f0, .inl v0, .inl w0] M (PX M (qSewn s.2.1 f0 v0 w0, s)) := by
  refine Call.of kX9_sewn.1 (Nat.le_of_ble_eq_true rfl) ?_
  obtain ⟨hg, hk, hM⟩ := rec_x hX
  refine G_aload_n dX9_sewn_0 rfl rfl ?_
  refine G_getR (j := 8) dX9_sewn_1 fX9_33 rfl rfl ?_
  refine G_iload_n dX9_sewn_4 rfl rfl ?_
  refine G_callVi (ν := uX1_has) (As := [.inl f0]) dX9_sewn_5 nX9_139 kX1_has rfl rfl rfl rfl rfl (Nat.le_of_ble_eq_true rfl) (c_hasF (g := s.2.1) hM) ?_
  rintro _ M8 ⟨rfl, e9⟩
  subst M8
  refine Gb_if_eq (tgt := 29) dX9_sewn_8 (by decide) (fun h8 => ?_) (fun h8 => ?_)
  · refine G_iconst (v := ((-1))) dX9_sewn_29 (by decide) ?_
    refine G_iret dX9_sewn_30 rfl rfl ?_
    exact PXq hX FRQ_r (by rw [qSewn, cI_f (fun q => dec_niff.mp h8 q.1)])
  · refine G_iload_n dX9_sewn_11 rfl rfl ?_
    refine G_iconst (v := (nI 0)) dX9_sewn_12 (by decide) ?_
    refine G_iconst (v := (nI 1)) dX9_sewn_13 (by decide) ?_
    refine G_callSi (ν := uX9_within) (As := [.inl v0, .inl (nI 0), .inl (nI 1)]) dX9_sewn_14 nX9_74 kX9_within rfl rfl rfl (Nat.le_of_ble_eq_true rfl) (c_withinI (lo := 0) (hi := 1)) ?_
    rintro _ M8 ⟨rfl, e9⟩
    subst M8
    refine Gb_if_eq (tgt := 29) dX9_sewn_17 (by decide) (fun h17 => ?_) (fun h17 => ?_)
    · refine G_iconst (v := ((-1))) dX9_sewn_29 (by decide) ?_
      refine G_iret dX9_sewn_30 rfl rfl ?_
      exact PXq hX FRQ_r (by rw [qSewn, cI_f (fun q => dec_niff.mp h17 q.2.1)])
    · refine G_iload_n dX9_sewn_20 rfl rfl ?_
      refine G_iconst (v := (nI 0)) dX9_sewn_21 (by decide) ?_
      refine G_iconst (v := (nI 3)) dX9_sewn_22 (by decide) ?_
      refine G_callSi (ν := uX9_within) (As := [.inl w0, .inl (nI 0), .inl (nI 3)]) dX9_sewn_23 nX9_74 kX9_within rfl rfl rfl (Nat.le_of_ble_eq_true rfl) (c_withinI (lo := 0) (hi := 3)) ?_
      rintro _ M8 ⟨rfl, e9⟩
      subst M8
      refine Gb_if_ne (tgt := 31) dX9_sewn_26 (by decide) (fun h26 => ?_) (fun h26 => ?_)
      · obtain ⟨f, hf, rfl⟩ := hasF_nI (dec_iff.mp h8)
        obtain ⟨v, -, hv, rfl⟩ := inI_nI (dec_iff.mp h17) (by decide) (by decide)
        obtain ⟨w, -, hw, rfl⟩ := inI_nI (dec_iff.mp h26) (by decide) (by decide)
        refine G_aload_n dX9_sewn_31 rfl rfl ?_
        refine G_getR (j := 17) dX9_sewn_32 fX9_40 rfl rfl ?_
        refine G_aload_n dX9_sewn_35 rfl rfl ?_
        refine G_getR (j := 1) dX9_sewn_36 fX9_12 rfl rfl ?_
        refine G_aload_n dX9_sewn_39 rfl rfl ?_
        refine G_getR (j := 8) dX9_sewn_40 fX9_33 rfl rfl ?_
        refine G_iload_n dX9_sewn_43 rfl rfl ?_
        refine G_iload_n dX9_sewn_44 rfl rfl ?_
        refine G_callVv (ν := uX5_lay) (As := [.inr 1, .inr 8, .inl (nI f), .inl (nI v)]) dX9_sewn_45 nX9_163 kX5_lay rfl rfl rfl rfl rfl (Nat.le_of_ble_eq_true rfl) (c_layG hg hk hM hf (by omega)) ?_
        rintro _ Ma ⟨hFa, hSa⟩
        have hga := hC_A hg hFa
        refine G_aload_n dX9_sewn_48 rfl rfl ?_
        refine G_getR (j := 17) dX9_sewn_49 fX9_40 rfl rfl ?_
        refine G_aload_n dX9_sewn_52 rfl rfl ?_
        refine G_getR (j := 1) dX9_sewn_53 fX9_12 rfl rfl ?_
        refine G_iload_n dX9_sewn_56 rfl rfl ?_
        refine G_callVi (ν := uX5_figure) (As := [.inr 1, .inl (nI w)]) dX9_sewn_57 nX9_167 kX5_figure rfl rfl rfl rfl rfl (Nat.le_of_ble_eq_true rfl) (c_figG hga hk hSa (by omega)) ?_
        rintro _ M8 ⟨rfl, e9⟩
        refine G_iret dX9_sewn_60 rfl rfl ?_
        exact PXq hX (FRQ_A (FRA_t hFa e9)) (qSewn_is hf hv hw)
      · refine G_iconst (v := ((-1))) dX9_sewn_29 (by decide) ?_
        refine G_iret dX9_sewn_30 rfl rfl ?_
        exact PXq hX FRQ_r (by rw [qSewn, cI_f (fun q => dec_niff.mp h26 q.2.2)])
theorem x_row {d : Nat} {s : AS} {M : Mem} {f0 v0 r0 w0 : Int32} (hX : XR s M) : Call l α D cA uX9_row (d + 5) [.inr 0, .inl f0, .inl v0, .inl r0, .inl w0] M (PX M (qRow s.2.1 f0 v0 r0 w0, s)) := by
  refine Call.of kX9_row.1 (Nat.le_of_ble_eq_true rfl) ?_
  obtain ⟨hg, hk, hM⟩ := rec_x hX
  refine G_aload_n dX9_row_0 rfl rfl ?_
  refine G_getR (j := 8) dX9_row_1 fX9_33 rfl rfl ?_
  refine G_iload_n dX9_row_4 rfl rfl ?_
  refine G_callVi (ν := uX1_has) (As := [.inl f0]) dX9_row_5 nX9_139 kX1_has rfl rfl rfl rfl rfl (Nat.le_of_ble_eq_true rfl) (c_hasF (g := s.2.1) hM) ?_
  rintro _ M8 ⟨rfl, e9⟩
  subst M8
  refine Gb_if_eq (tgt := 34) dX9_row_8 (by decide) (fun h8 => ?_) (fun h8 => ?_)
  · refine G_iconst (v := ((-1))) dX9_row_34 (by decide) ?_
    refine G_iret dX9_row_35 rfl rfl ?_
    exact PXq hX FRQ_r (by rw [qRow, cI_f (fun q => dec_niff.mp h8 q.1)])
  · refine G_iload_n dX9_row_11 rfl rfl ?_
    refine G_iconst (v := (nI 0)) dX9_row_12 (by decide) ?_
    refine G_iconst (v := (nI 1)) dX9_row_13 (by decide) ?_
    refine G_callSi (ν := uX9_within) (As := [.inl v0, .inl (nI 0), .inl (nI 1)]) dX9_row_14 nX9_74 kX9_within rfl rfl rfl (Nat.le_of_ble_eq_true rfl) (c_withinI (lo := 0) (hi := 1)) ?_
    rintro _ M8 ⟨rfl, e9⟩
    subst M8
    refine Gb_if_eq (tgt := 34) dX9_row_17 (by decide) (fun h17 => ?_) (fun h17 => ?_)
    · refine G_iconst (v := ((-1))) dX9_row_34 (by decide) ?_
      refine G_iret dX9_row_35 rfl rfl ?_
      exact PXq hX FRQ_r (by rw [qRow, cI_f (fun q => dec_niff.mp h17 q.2.1)])
    · refine G_iload_n dX9_row_20 rfl rfl ?_
      refine G_if_lt (tgt := 34) dX9_row_21 (by decide) (fun h21 => ?_) (fun h21 => ?_)
      · refine G_iconst (v := ((-1))) dX9_row_34 (by decide) ?_
        refine G_iret dX9_row_35 rfl rfl ?_
        exact PXq hX FRQ_r (by rw [qRow, cI_f (fun q => (by have := q.2.2.1; grind))])
      · refine G_iload dX9_row_24 rfl ?_
        refine G_iconst (v := (nI 0)) dX9_row_26 (by decide) ?_
        refine G_iconst (v := (nI 3)) dX9_row_27 (by decide) ?_
        refine G_callSi (ν := uX9_within) (As := [.inl w0, .inl (nI 0), .inl (nI 3)]) dX9_row_28 nX9_74 kX9_within rfl rfl rfl (Nat.le_of_ble_eq_true rfl) (c_withinI (lo := 0) (hi := 3)) ?_
        rintro _ M8 ⟨rfl, e9⟩
        subst M8
        refine Gb_if_ne (tgt := 36) dX9_row_31 (by decide) (fun h31 => ?_) (fun h31 => ?_)
        · obtain ⟨f, hf, rfl⟩ := hasF_nI (dec_iff.mp h8)
          obtain ⟨v, -, hv, rfl⟩ := inI_nI (dec_iff.mp h17) (by decide) (by decide)
          obtain ⟨r, hr, rfl⟩ := nI_of (show ¬ r0 < 0 by assumption)
          obtain ⟨w, -, hw, rfl⟩ := inI_nI (dec_iff.mp h31) (by decide) (by decide)
          have hb1 : (rwS (labF s.2.1) v f (s.2.1 0) (s.2.1 1)).1 ≤ 48 := (rw_48 hk).1
          have hb2 : (psS (rwS (labF s.2.1) v f (s.2.1 0) (s.2.1 1))).1 ≤ 48 := (rw_48 hk).2
          refine G_aload_n dX9_row_36 rfl rfl ?_
          refine G_getR (j := 17) dX9_row_37 fX9_40 rfl rfl ?_
          refine G_aload_n dX9_row_40 rfl rfl ?_
          refine G_getR (j := 1) dX9_row_41 fX9_12 rfl rfl ?_
          refine G_aload_n dX9_row_44 rfl rfl ?_
          refine G_getR (j := 8) dX9_row_45 fX9_33 rfl rfl ?_
          refine G_iload_n dX9_row_48 rfl rfl ?_
          refine G_iload_n dX9_row_49 rfl rfl ?_
          refine G_callVv (ν := uX5_lay) (As := [.inr 1, .inr 8, .inl (nI f), .inl (nI v)]) dX9_row_50 nX9_163 kX5_lay rfl rfl rfl rfl rfl (Nat.le_of_ble_eq_true rfl) (c_layG hg hk hM hf (by omega)) ?_
          rintro _ Ma ⟨hFa, hSa⟩
          have hga := hC_A hg hFa
          refine G_iload_n dX9_row_53 rfl rfl ?_
          refine G_aload_n dX9_row_54 rfl rfl ?_
          refine G_getR (j := 17) dX9_row_55 fX9_40 rfl rfl ?_
          refine G_callVi (ν := uX5_rowsLaid) (As := []) dX9_row_58 nX9_171 kX5_rowsLaid rfl rfl rfl rfl rfl (Nat.le_of_ble_eq_true rfl) (c_rowsLaid hSa hk.1.2 hk.2.1.2) ?_
          rintro _ M8 ⟨rfl, e9⟩
          subst M8
          refine Gn_icmp_lt (tgt := 67) dX9_row_61 (by decide) (by omega) (by omega) (fun h61 => ?_) (fun h61 => ?_)
          · rcases (show w = 0 ∨ w = 1 ∨ w = 2 ∨ w = 3 by omega) with rfl | rfl | rfl | rfl
            · skip
              refine G_iload dX9_row_67 rfl ?_
              refine G_swIn (tgt := 96) dX9_row_69 (by decide) (by decide) rfl (by decide) ?_
              refine G_aload_n dX9_row_96 rfl rfl ?_
              refine G_getR (j := 1) dX9_row_97 fX9_12 rfl rfl ?_
              refine G_aload_n dX9_row_100 rfl rfl ?_
              refine G_getR (j := 17) dX9_row_101 fX9_40 rfl rfl ?_
              refine G_iload_n dX9_row_104 rfl rfl ?_
              refine G_callVi (ν := uX5_rowStart) (As := [.inl (nI r)]) dX9_row_105 nX9_174 kX5_rowStart rfl rfl rfl rfl rfl (Nat.le_of_ble_eq_true rfl) (c_rowStart hSa hk.1.2 hk.2.1.2 h61) ?_
              rintro _ M8 ⟨rfl, e9⟩
              subst M8
              refine G_callVi (ν := uX0_numberOf) (As := [.inl (nI (plc v ((rwS (labF s.2.1) v f (s.2.1 0) (s.2.1 1)).2.1 r) ((rwS (labF s.2.1) v f (s.2.1 0) (s.2.1 1)).2.2.1 r)))]) dX9_row_108 nX9_151 kX0_numberOf rfl rfl rfl rfl rfl (Nat.le_of_ble_eq_true rfl) (c_numberOf (o := 1) (v := 2) rfl rfl (hga 0 (by decide)) ((rwS_grid hk.1.2 hk.2.1.2 h61).1) hk.1.2) ?_
              rintro _ M8 ⟨rfl, e9⟩
              subst M8
              refine G_iret dX9_row_111 rfl rfl ?_
              exact PXq hX (FRQ_A hFa) (qRow_is hf hv (by decide) h61 hb1)
            · skip
              refine G_iload dX9_row_67 rfl ?_
              refine G_swIn (tgt := 112) dX9_row_69 (by decide) (by decide) rfl (by decide) ?_
              refine G_aload_n dX9_row_112 rfl rfl ?_
              refine G_getR (j := 17) dX9_row_113 fX9_40 rfl rfl ?_
              refine G_iload_n dX9_row_116 rfl rfl ?_
              refine G_callVi (ν := uX5_rowLength) (As := [.inl (nI r)]) dX9_row_117 nX9_177 kX5_rowLength rfl rfl rfl rfl rfl (Nat.le_of_ble_eq_true rfl) (c_rowLength hSa hk.1.2 hk.2.1.2 h61) ?_
              rintro _ M8 ⟨rfl, e9⟩
              subst M8
              refine G_iret dX9_row_120 rfl rfl ?_
              exact PXq hX (FRQ_A hFa) (qRow_is hf hv (by decide) h61 hb1)
            · skip
              refine G_iload dX9_row_67 rfl ?_
              refine G_swIn (tgt := 121) dX9_row_69 (by decide) (by decide) rfl (by decide) ?_
              refine G_aload_n dX9_row_121 rfl rfl ?_
              refine G_getR (j := 17) dX9_row_122 fX9_40 rfl rfl ?_
              refine G_iload_n dX9_row_125 rfl rfl ?_
              refine G_callVi (ν := uX5_rowStitches) (As := [.inl (nI r)]) dX9_row_126 nX9_180 kX5_rowStitches rfl rfl rfl rfl rfl (Nat.le_of_ble_eq_true rfl) (c_rowStitches hSa hk.1.2 hk.2.1.2 h61 hk.2.2.1.1 hk.2.2.1.2) ?_
              rintro _ M8 ⟨rfl, e9⟩
              subst M8
              refine G_iret dX9_row_129 rfl rfl ?_
              exact PXq hX (FRQ_A hFa) (qRow_is hf hv (by decide) h61 hb1)
            · skip
              refine G_iload dX9_row_67 rfl ?_
              refine G_swOut (tgt := 130) dX9_row_69 (by decide) (by decide) ?_
              refine G_aload_n dX9_row_130 rfl rfl ?_
              refine G_getR (j := 17) dX9_row_131 fX9_40 rfl rfl ?_
              refine G_iload_n dX9_row_134 rfl rfl ?_
              refine G_callVi (ν := uX5_rowPart) (As := [.inl (nI r)]) dX9_row_135 nX9_183 kX5_rowPart rfl rfl rfl rfl rfl (Nat.le_of_ble_eq_true rfl) (c_rowPart hSa hk.1.2 hk.2.1.2 h61) ?_
              rintro _ M8 ⟨rfl, e9⟩
              subst M8
              refine G_iret dX9_row_138 rfl rfl ?_
              exact PXq hX (FRQ_A hFa) (qRow_is hf hv (by decide) h61 hb1)
          · refine G_bipush (v := ((-9))) dX9_row_64 (by decide) ?_
            refine G_iret dX9_row_66 rfl rfl ?_
            exact PXq hX (FRQ_A hFa) (qRow_no hf hv hw hr (fun q => absurd q (Nat.not_lt.mpr (by assumption))) hb1)
        · refine G_iconst (v := ((-1))) dX9_row_34 (by decide) ?_
          refine G_iret dX9_row_35 rfl rfl ?_
          exact PXq hX FRQ_r (by rw [qRow, cI_f (fun q => dec_niff.mp h31 q.2.2.2)])
theorem parV_3 {g : Nat → Nat} {v f p : Nat} (h : p + 1 < (psS (rwG g v f)).1) : parV g v f p 3 = nI (hid g v (rwG g v f) (psS (rwG g v f)) p) := if_pos h
theorem parV_3n {g : Nat → Nat} {v f p : Nat} (h : ¬ p + 1 < (psS (rwG g v f)).1) : parV g v f p 3 = -9 := if_neg h
theorem x_part {d : Nat} {s : AS} {M : Mem} {f0 v0 r0 w0 : Int32} (hX : XR s M) : Call l α D cA uX9_part (d + 5) [.inr 0, .inl f0, .inl v0, .inl r0, .inl w0] M (PX M (qPart s.2.1 f0 v0 r0 w0, s)) := by
  refine Call.of kX9_part.1 (Nat.le_of_ble_eq_true rfl) ?_
  obtain ⟨hg, hk, hM⟩ := rec_x hX
  refine G_aload_n dX9_part_0 rfl rfl ?_
  refine G_getR (j := 8) dX9_part_1 fX9_33 rfl rfl ?_
  refine G_iload_n dX9_part_4 rfl rfl ?_
  refine G_callVi (ν := uX1_has) (As := [.inl f0]) dX9_part_5 nX9_139 kX1_has rfl rfl rfl rfl rfl (Nat.le_of_ble_eq_true rfl) (c_hasF (g := s.2.1) hM) ?_
  rintro _ M8 ⟨rfl, e9⟩
  subst M8
  refine Gb_if_eq (tgt := 34) dX9_part_8 (by decide) (fun h8 => ?_) (fun h8 => ?_)
  · refine G_iconst (v := ((-1))) dX9_part_34 (by decide) ?_
    refine G_iret dX9_part_35 rfl rfl ?_
    exact PXq hX FRQ_r (by rw [qPart, cI_f (fun q => dec_niff.mp h8 q.1)])
  · refine G_iload_n dX9_part_11 rfl rfl ?_
    refine G_iconst (v := (nI 0)) dX9_part_12 (by decide) ?_
    refine G_iconst (v := (nI 1)) dX9_part_13 (by decide) ?_
    refine G_callSi (ν := uX9_within) (As := [.inl v0, .inl (nI 0), .inl (nI 1)]) dX9_part_14 nX9_74 kX9_within rfl rfl rfl (Nat.le_of_ble_eq_true rfl) (c_withinI (lo := 0) (hi := 1)) ?_
    rintro _ M8 ⟨rfl, e9⟩
    subst M8
    refine Gb_if_eq (tgt := 34) dX9_part_17 (by decide) (fun h17 => ?_) (fun h17 => ?_)
    · refine G_iconst (v := ((-1))) dX9_part_34 (by decide) ?_
      refine G_iret dX9_part_35 rfl rfl ?_
      exact PXq hX FRQ_r (by rw [qPart, cI_f (fun q => dec_niff.mp h17 q.2.1)])
    · refine G_iload_n dX9_part_20 rfl rfl ?_
      refine G_if_lt (tgt := 34) dX9_part_21 (by decide) (fun h21 => ?_) (fun h21 => ?_)
      · refine G_iconst (v := ((-1))) dX9_part_34 (by decide) ?_
        refine G_iret dX9_part_35 rfl rfl ?_
        exact PXq hX FRQ_r (by rw [qPart, cI_f (fun q => (by have := q.2.2.1; grind))])
      · refine G_iload dX9_part_24 rfl ?_
        refine G_iconst (v := (nI 0)) dX9_part_26 (by decide) ?_
        refine G_iconst (v := (nI 3)) dX9_part_27 (by decide) ?_
        refine G_callSi (ν := uX9_within) (As := [.inl w0, .inl (nI 0), .inl (nI 3)]) dX9_part_28 nX9_74 kX9_within rfl rfl rfl (Nat.le_of_ble_eq_true rfl) (c_withinI (lo := 0) (hi := 3)) ?_
        rintro _ M8 ⟨rfl, e9⟩
        subst M8
        refine Gb_if_ne (tgt := 36) dX9_part_31 (by decide) (fun h31 => ?_) (fun h31 => ?_)
        · obtain ⟨f, hf, rfl⟩ := hasF_nI (dec_iff.mp h8)
          obtain ⟨v, -, hv, rfl⟩ := inI_nI (dec_iff.mp h17) (by decide) (by decide)
          obtain ⟨r, hr, rfl⟩ := nI_of (show ¬ r0 < 0 by assumption)
          obtain ⟨w, -, hw, rfl⟩ := inI_nI (dec_iff.mp h31) (by decide) (by decide)
          have hb1 : (rwS (labF s.2.1) v f (s.2.1 0) (s.2.1 1)).1 ≤ 48 := (rw_48 hk).1
          have hb2 : (psS (rwS (labF s.2.1) v f (s.2.1 0) (s.2.1 1))).1 ≤ 48 := (rw_48 hk).2
          refine G_aload_n dX9_part_36 rfl rfl ?_
          refine G_getR (j := 17) dX9_part_37 fX9_40 rfl rfl ?_
          refine G_aload_n dX9_part_40 rfl rfl ?_
          refine G_getR (j := 1) dX9_part_41 fX9_12 rfl rfl ?_
          refine G_aload_n dX9_part_44 rfl rfl ?_
          refine G_getR (j := 8) dX9_part_45 fX9_33 rfl rfl ?_
          refine G_iload_n dX9_part_48 rfl rfl ?_
          refine G_iload_n dX9_part_49 rfl rfl ?_
          refine G_callVv (ν := uX5_lay) (As := [.inr 1, .inr 8, .inl (nI f), .inl (nI v)]) dX9_part_50 nX9_163 kX5_lay rfl rfl rfl rfl rfl (Nat.le_of_ble_eq_true rfl) (c_layG hg hk hM hf (by omega)) ?_
          rintro _ Ma ⟨hFa, hSa⟩
          have hga := hC_A hg hFa
          refine G_iload_n dX9_part_53 rfl rfl ?_
          refine G_aload_n dX9_part_54 rfl rfl ?_
          refine G_getR (j := 17) dX9_part_55 fX9_40 rfl rfl ?_
          refine G_callVi (ν := uX5_partsLaid) (As := []) dX9_part_58 nX9_186 kX5_partsLaid rfl rfl rfl rfl rfl (Nat.le_of_ble_eq_true rfl) (c_partsLaid hSa hk.1.2 hk.2.1.2) ?_
          rintro _ M8 ⟨rfl, e9⟩
          subst M8
          refine Gn_icmp_lt (tgt := 67) dX9_part_61 (by decide) (by omega) (by omega) (fun h61 => ?_) (fun h61 => ?_)
          · rcases (show w = 0 ∨ w = 1 ∨ w = 2 ∨ (w = 3 ∧ r + 1 < (psS (rwS (labF s.2.1) v f (s.2.1 0) (s.2.1 1))).1) ∨ (w = 3 ∧ ¬ r + 1 < (psS (rwS (labF s.2.1) v f (s.2.1 0) (s.2.1 1))).1) by omega) with rfl | rfl | rfl | ⟨rfl, hp⟩ | ⟨rfl, hp⟩
            · skip
              refine G_iload dX9_part_67 rfl ?_
              refine G_swIn (tgt := 96) dX9_part_69 (by decide) (by decide) rfl (by decide) ?_
              refine G_aload_n dX9_part_96 rfl rfl ?_
              refine G_getR (j := 17) dX9_part_97 fX9_40 rfl rfl ?_
              refine G_iload_n dX9_part_100 rfl rfl ?_
              refine G_callVi (ν := uX5_partRows) (As := [.inl (nI r)]) dX9_part_101 nX9_189 kX5_partRows rfl rfl rfl rfl rfl (Nat.le_of_ble_eq_true rfl) (c_partRows hSa hk.1.2 hk.2.1.2 h61) ?_
              rintro _ M8 ⟨rfl, e9⟩
              subst M8
              refine G_iret dX9_part_104 rfl rfl ?_
              exact PXq hX (FRQ_A hFa) (qPart_is hf hv (by decide) h61 hb2)
            · skip
              refine G_iload dX9_part_67 rfl ?_
              refine G_swIn (tgt := 105) dX9_part_69 (by decide) (by decide) rfl (by decide) ?_
              refine G_aload_n dX9_part_105 rfl rfl ?_
              refine G_getR (j := 1) dX9_part_106 fX9_12 rfl rfl ?_
              refine G_aload_n dX9_part_109 rfl rfl ?_
              refine G_getR (j := 17) dX9_part_110 fX9_40 rfl rfl ?_
              refine G_iload_n dX9_part_113 rfl rfl ?_
              refine G_callVi (ν := uX5_partStart) (As := [.inl (nI r)]) dX9_part_114 nX9_192 kX5_partStart rfl rfl rfl rfl rfl (Nat.le_of_ble_eq_true rfl) (c_partStart hSa hk.1.2 hk.2.1.2 h61) ?_
              rintro _ M8 ⟨rfl, e9⟩
              subst M8
              refine G_callVi (ν := uX0_numberOf) (As := [.inl (nI (pBeg v (rwS (labF s.2.1) v f (s.2.1 0) (s.2.1 1)) (psS (rwS (labF s.2.1) v f (s.2.1 0) (s.2.1 1))) r))]) dX9_part_117 nX9_151 kX0_numberOf rfl rfl rfl rfl rfl (Nat.le_of_ble_eq_true rfl) (c_numberOf (o := 1) (v := 2) rfl rfl (hga 0 (by decide)) ((pBeg_in hk.1.2 hk.2.1.2 h61).2) hk.1.2) ?_
              rintro _ M8 ⟨rfl, e9⟩
              subst M8
              refine G_iret dX9_part_120 rfl rfl ?_
              exact PXq hX (FRQ_A hFa) (qPart_is hf hv (by decide) h61 hb2)
            · skip
              refine G_iload dX9_part_67 rfl ?_
              refine G_swIn (tgt := 121) dX9_part_69 (by decide) (by decide) rfl (by decide) ?_
              refine G_aload_n dX9_part_121 rfl rfl ?_
              refine G_getR (j := 1) dX9_part_122 fX9_12 rfl rfl ?_
              refine G_aload_n dX9_part_125 rfl rfl ?_
              refine G_getR (j := 17) dX9_part_126 fX9_40 rfl rfl ?_
              refine G_iload_n dX9_part_129 rfl rfl ?_
              refine G_callVi (ν := uX5_partEnd) (As := [.inl (nI r)]) dX9_part_130 nX9_195 kX5_partEnd rfl rfl rfl rfl rfl (Nat.le_of_ble_eq_true rfl) (c_partEnd hSa hk.1.2 hk.2.1.2 h61) ?_
              rintro _ M8 ⟨rfl, e9⟩
              subst M8
              refine G_callVi (ν := uX0_numberOf) (As := [.inl (nI (pEnd v (rwS (labF s.2.1) v f (s.2.1 0) (s.2.1 1)) (psS (rwS (labF s.2.1) v f (s.2.1 0) (s.2.1 1))) r))]) dX9_part_133 nX9_151 kX0_numberOf rfl rfl rfl rfl rfl (Nat.le_of_ble_eq_true rfl) (c_numberOf (o := 1) (v := 2) rfl rfl (hga 0 (by decide)) ((pEnd_in hk.1.2 hk.2.1.2 h61).2) hk.1.2) ?_
              rintro _ M8 ⟨rfl, e9⟩
              subst M8
              refine G_iret dX9_part_136 rfl rfl ?_
              exact PXq hX (FRQ_A hFa) (qPart_is hf hv (by decide) h61 hb2)
            · skip
              refine G_iload dX9_part_67 rfl ?_
              refine G_swOut (tgt := 137) dX9_part_69 (by decide) (by decide) ?_
              refine G_aload_n dX9_part_137 rfl rfl ?_
              refine G_getR (j := 17) dX9_part_138 fX9_40 rfl rfl ?_
              refine G_aload_n dX9_part_141 rfl rfl ?_
              refine G_getR (j := 1) dX9_part_142 fX9_12 rfl rfl ?_
              refine G_iload_n dX9_part_145 rfl rfl ?_
              refine G_callVi (ν := uX5_hiddenWay) (As := [.inr 1, .inl (nI r)]) dX9_part_146 nX9_198 kX5_hiddenWay rfl rfl rfl rfl rfl (Nat.le_of_ble_eq_true rfl) (c_hidden hSa hk.1.2 hk.2.1.2 hga (gok_9 hk) hp) ?_
              rintro _ M8 ⟨rfl, e9⟩
              refine G_iret dX9_part_149 rfl rfl ?_
              exact PXq hX (FRQ_A (FRA_t hFa (FRA_s e9))) ((qPart_is hf hv (by decide) h61 hb2).trans (parV_3 hp))
            · skip
              refine G_iload dX9_part_67 rfl ?_
              refine G_swOut (tgt := 137) dX9_part_69 (by decide) (by decide) ?_
              refine G_aload_n dX9_part_137 rfl rfl ?_
              refine G_getR (j := 17) dX9_part_138 fX9_40 rfl rfl ?_
              refine G_aload_n dX9_part_141 rfl rfl ?_
              refine G_getR (j := 1) dX9_part_142 fX9_12 rfl rfl ?_
              refine G_iload_n dX9_part_145 rfl rfl ?_
              refine G_callVi (ν := uX5_hiddenWay) (As := [.inr 1, .inl (nI r)]) dX9_part_146 nX9_198 kX5_hiddenWay rfl rfl rfl rfl rfl (Nat.le_of_ble_eq_true rfl) (c_hiddenNo hSa hk.1.2 hk.2.1.2 hga (gok_9 hk) hp (by omega)) ?_
              rintro _ M8 ⟨rfl, e9⟩
              subst M8
              refine G_iret dX9_part_149 rfl rfl ?_
              exact PXq hX (FRQ_A hFa) ((qPart_is hf hv (by decide) h61 hb2).trans (parV_3n hp))
          · refine G_bipush (v := ((-9))) dX9_part_64 (by decide) ?_
            refine G_iret dX9_part_66 rfl rfl ?_
            exact PXq hX (FRQ_A hFa) (qPart_no hf hv hw hr (fun q => absurd q (Nat.not_lt.mpr (by assumption))) hb2)
        · refine G_iconst (v := ((-1))) dX9_part_34 (by decide) ?_
          refine G_iret dX9_part_35 rfl rfl ?_
          exact PXq hX FRQ_r (by rw [qPart, cI_f (fun q => dec_niff.mp h31 q.2.2.2)])
theorem FRQ_O {M M1 : Mem} (h : FRO M M1) : ∀ q, (q < 31 ∨ 33 < q) → M1 q = M q := h
theorem FRQ_O2 {M M1 : Mem} (h : FRO M M1) : FRQ M M1 := fun q hq => h q (by omega)
theorem ord_10 {g : Nat → Nat} (i : Nat) (h : labN g ≤ 10) : (ordS g i).1 ≤ 10 := by
  rw [ord_inv]
  exact Nat.le_trans (fb_ct_le _ _) h
theorem fld_of {g : Nat → Nat} {p : Nat} (hp : p < 48) (h : g (12 + p) ≠ 0) : ∃ f, f < labN g ∧ labF g p = some f ∧ col g f = g (12 + p) := by
  obtain ⟨h1, h2, h3, h4, h5⟩ := labF_inv g
  obtain ⟨f, hf⟩ := h4 p hp h
  have hl := h2 p f hf
  exact ⟨f, hl, hf, (conn_col (((h3 f hl).2.2.1 p).mp hf)).symm⟩
theorem nxt_some {g : Nat → Nat} {dn : Nat → Bool} : ∀ (m f : Nat), f < labN g → dn (col g f) = false → g (8 + col g f) ≤ m → ∃ f', nxt g dn = some f' := by
  intro m
  have base : ∀ f : Nat, f < labN g → dn (col g f) = false → ¬ mw g dn (col g f) → ∃ f', nxt g dn = some f' := fun f hf hd hw => by
    cases h : nxt g dn with
    | some f' => exact ⟨f', rfl⟩
    | none =>
      refine absurd ?_ (fnd_none h f hf)
      rw [hd, dec_f hw]
      rfl
  induction m with
  | zero =>
    intro f hf hd hm
    refine base f hf hd (fun ⟨o, ho1, ho3, hdo, hlt, ht⟩ => ?_)
    omega
  | succ m ih =>
    intro f hf hd hm
    by_cases hw : mw g dn (col g f)
    · obtain ⟨o, ho1, ho3, hdo, hlt, p, hp, hpo, -⟩ := hw
      obtain ⟨f', hf', -, hc⟩ := fld_of (g := g) hp (by omega)
      exact ih f' hf' (by rw [hc, hpo]; exact hdo) (by rw [hc, hpo]; omega)
    · exact base f hf hd hw
theorem nxt_in {g : Nat → Nat} {dn : Nat → Bool} {f : Nat} (h : nxt g dn = some f) : f < labN g ∧ dn (col g f) = false ∧ ¬ mw g dn (col g f) := by
  obtain ⟨h1, h2⟩ := fnd_some h
  rw [Bool.and_eq_true] at h2
  refine ⟨h1, ?_, ?_⟩
  · have := h2.1
    cases hd : dn (col g f)
    · rfl
    · rw [hd] at this; exact absurd this (by decide)
  · have := h2.2
    intro hw
    rw [dec_t hw] at this
    exact absurd this (by decide)
theorem ordS_none {g : Nat → Nat} {i : Nat} (h : nxt g (ordS g i).2.2.1 = none) : ordS g (i + 1) = ordS g i := by
  rw [ordS, ordT, h]
theorem ordS_some {g : Nat → Nat} {i f : Nat} (h : nxt g (ordS g i).2.2.1 = some f) : ordS g (i + 1) = ((addL (col g) (col g f) (labN g) ((ordS g i).1, (ordS g i).2.1)).1, (addL (col g) (col g f) (labN g) ((ordS g i).1, (ordS g i).2.1)).2, fun c => if c = col g f then true else (ordS g i).2.2.1 c, (ordS g i).2.2.2 + 1) := by
  rw [ordS, ordT, h]
theorem ord_mono {g : Nat → Nat} (i : Nat) : (ordS g i).2.2.2 ≤ (ordS g (i + 1)).2.2.2 := by
  cases h : nxt g (ordS g i).2.2.1 with
  | none => rw [ordS_none h]; exact Nat.le_refl _
  | some f => rw [ordS_some h]; exact Nat.le_succ _
theorem ord_1 {g : Nat → Nat} (h : 0 < labN g) : 1 ≤ (ordS g 3).2.2.2 := by
  obtain ⟨f, hf⟩ := nxt_some (g := g) (dn := (ordS g 0).2.2.1) _ 0 h rfl (Nat.le_refl _)
  have h1 : (ordS g 1).2.2.2 = 1 := by rw [ordS_some hf]; rfl
  have h2 : (ordS g 1).2.2.2 ≤ (ordS g 2).2.2.2 := ord_mono 1
  have h3 : (ordS g 2).2.2.2 ≤ (ordS g 3).2.2.2 := ord_mono 2
  omega
/-- all fields' colours have been sewn after three steps -/
theorem ord_dn {g : Nat → Nat} (hk : gok g) (i : Nat) : (∀ f, f < labN g → (ordS g i).2.2.1 (col g f) = true) ∨ i ≤ fb_ct (fun c => (ordS g i).2.2.1 (c + 1)) 3 := by
  induction i with
  | zero => exact Or.inr (Nat.zero_le _)
  | succ i ih =>
    cases h : nxt g (ordS g i).2.2.1 with
    | none =>
      refine Or.inl (fun f hf => ?_)
      rw [ordS_none h]
      cases hd : (ordS g i).2.2.1 (col g f)
      · obtain ⟨f', hf'⟩ := nxt_some _ f hf hd (Nat.le_refl _)
        rw [h] at hf'
        cases hf'
      · rfl
    | some f =>
      obtain ⟨hf, hd, -⟩ := nxt_in h
      rw [ordS_some h]
      rcases ih with ih | ih
      · rw [ih f hf] at hd
        cases hd
      · right
        have hc := col_in hk hf
        have key := fb_ct_upd (fun c => (ordS g i).2.2.1 (c + 1)) true (i := col g f - 1) (n := 3) (by omega)
        have e : (fun k => if k = col g f - 1 then true else (ordS g i).2.2.1 (k + 1)) = fun k => if k + 1 = col g f then true else (ordS g i).2.2.1 (k + 1) := by
          funext k
          by_cases hk1 : k = col g f - 1
          · rw [if_pos hk1, if_pos (by omega)]
          · rw [if_neg hk1, if_neg (by omega)]
        rw [e, show col g f - 1 + 1 = col g f by omega, hd] at key
        simp only [Bool.false_eq_true, if_false, if_true] at key
        show i + 1 ≤ fb_ct (fun c => if c + 1 = col g f then true else (ordS g i).2.2.1 (c + 1)) 3
        omega
theorem ord_all {g : Nat → Nat} (hk : gok g) : ∀ f, f < labN g → (ordS g 3).2.2.1 (col g f) = true := by
  rcases ord_dn hk 3 with h | h
  · exact h
  · intro f hf
    have hc := col_in hk hf
    have := (fb_ct_all (n := 3)).mp (Nat.le_antisymm (fb_ct_le _ _) h) (col g f - 1) (by omega)
    rw [show col g f - 1 + 1 = col g f by omega] at this
    exact this
theorem ord_n {g : Nat → Nat} (hk : gok g) : (ordS g 3).1 = labN g := by
  rw [ord_inv]
  exact fb_ct_all.mpr (ord_all hk)
theorem x_order {d : Nat} {s : AS} {M : Mem} {k0 : Int32} (hX : XR s M) : Call l α D cA uX9_order (d + 6) [.inr 0, .inl k0] M (PX M (qOrder s.2.1 k0, s)) := by
  refine Call.of kX9_order.1 (Nat.le_of_ble_eq_true rfl) ?_
  obtain ⟨hg, hk, hM⟩ := rec_x hX
  have hL := labN_48 (g := s.2.1)
  refine G_iload_n dX9_order_0 rfl rfl ?_
  refine G_iconst (v := ((-1))) dX9_order_1 (by decide) ?_
  refine G_icmp_ge (tgt := 7) dX9_order_2 (by decide) (fun h2 => ?_) (fun h2 => ?_)
  · refine G_aload_n dX9_order_7 rfl rfl ?_
    refine G_getR (j := 8) dX9_order_8 fX9_33 rfl rfl ?_
    refine G_callVi (ν := uX1_size) (As := []) dX9_order_11 nX9_201 kX1_size rfl rfl rfl rfl rfl (Nat.le_of_ble_eq_true rfl) (c_msize hM.2.1) ?_
    rintro _ M8 ⟨rfl, e9⟩
    subst M8
    refine G_bipush (v := (nI 10)) dX9_order_14 (by decide) ?_
    refine Gn_icmp_le (tgt := 22) dX9_order_16 (by decide) (by omega) (by omega) (fun h16 => ?_) (fun h16 => ?_)
    · refine G_aload_n dX9_order_22 rfl rfl ?_
      refine G_getR (j := 8) dX9_order_23 fX9_33 rfl rfl ?_
      refine G_callVi (ν := uX1_size) (As := []) dX9_order_26 nX9_201 kX1_size rfl rfl rfl rfl rfl (Nat.le_of_ble_eq_true rfl) (c_msize hM.2.1) ?_
      rintro _ M8 ⟨rfl, e9⟩
      subst M8
      refine Gn_if_ne (tgt := 35) dX9_order_29 (by decide) (by omega) (fun h29 => ?_) (fun h29 => ?_)
      · refine G_aload_n dX9_order_35 rfl rfl ?_
        refine G_getR (j := 31) dX9_order_36 fX9_47 rfl rfl ?_
        refine G_aload_n dX9_order_39 rfl rfl ?_
        refine G_getR (j := 1) dX9_order_40 fX9_12 rfl rfl ?_
        refine G_aload_n dX9_order_43 rfl rfl ?_
        refine G_getR (j := 8) dX9_order_44 fX9_33 rfl rfl ?_
        refine G_callVv (ν := uX6_lay) (As := [.inr 1, .inr 8]) dX9_order_47 nX9_202 kX6_lay rfl rfl rfl rfl rfl (Nat.le_of_ble_eq_true rfl) (c_olay hg hk hM (by omega)) ?_
        rintro _ Ma ⟨hFa, hOa⟩
        refine G_iload_n dX9_order_50 rfl rfl ?_
        refine G_iconst (v := ((-1))) dX9_order_51 (by decide) ?_
        refine G_icmp_ne (tgt := 65) dX9_order_52 (by decide) (fun h52 => ?_) (fun h52 => ?_)
        · obtain ⟨k, hkk, rfl⟩ := nI_of (show ¬ k0 < 0 by grind)
          refine G_aload_n dX9_order_65 rfl rfl ?_
          refine G_getR (j := 31) dX9_order_66 fX9_47 rfl rfl ?_
          refine G_iload_n dX9_order_69 rfl rfl ?_
          refine G_callVi (ν := uX6_fieldAt) (As := [.inl (nI k)]) dX9_order_70 nX9_208 kX6_fieldAt rfl rfl rfl rfl rfl (Nat.le_of_ble_eq_true rfl) (c_ofield hOa (ord_10 3 (by omega)) hkk) ?_
          rintro _ M8 ⟨rfl, e9⟩
          subst M8
          refine G_iret dX9_order_73 rfl rfl ?_
          exact PXq hX (FRQ_O2 hFa) (by rw [qOrder, cI_f (by grind), cI_f (by omega), cI_f (by omega), cI_f (by grind), nN hkk])
        · refine G_aload_n dX9_order_55 rfl rfl ?_
          refine G_getR (j := 31) dX9_order_56 fX9_47 rfl rfl ?_
          refine G_callVi (ν := uX6_changes) (As := []) dX9_order_59 nX9_205 kX6_changes rfl rfl rfl rfl rfl (Nat.le_of_ble_eq_true rfl) (c_ochanges hOa (ord_1 (by omega))) ?_
          rintro _ M8 ⟨rfl, e9⟩
          subst M8
          refine G_goto (tgt := 73) dX9_order_62 (by decide) ?_
          refine G_iret dX9_order_73 rfl rfl ?_
          exact PXq hX (FRQ_O2 hFa) (by rw [qOrder, cI_f (by grind), cI_f (by omega), cI_f (by omega), cI_t (by grind)])
      · refine G_bipush (v := ((-9))) dX9_order_32 (by decide) ?_
        refine G_iret dX9_order_34 rfl rfl ?_
        exact PXq hX FRQ_r (by rw [qOrder, cI_f (by grind), cI_f (by omega), cI_t (by omega)])
    · refine G_bipush (v := ((-3))) dX9_order_19 (by decide) ?_
      refine G_iret dX9_order_21 rfl rfl ?_
      exact PXq hX FRQ_r (by rw [qOrder, cI_f (by grind), cI_t (by omega)])
  · refine G_iconst (v := ((-1))) dX9_order_5 (by decide) ?_
    refine G_iret dX9_order_6 rfl rfl ?_
    exact PXq hX FRQ_r (by rw [qOrder, cI_t (by grind)])
theorem fnd_s1 {P : Nat → Bool} {i : Nat} (h : P i = true) (h2 : fnd P i = none) : fnd P (i + 1) = some i := by rw [fnd, h2]; simp [h]
theorem fnd_s2 {P : Nat → Bool} {i b : Nat} (h2 : fnd P i = some b) : fnd P (i + 1) = some b := by rw [fnd, h2]
theorem fnd_s3 {P : Nat → Bool} {i : Nat} (h : P i = false) : fnd P (i + 1) = fnd P i := by
  rw [fnd]
  cases fnd P i <;> simp [h]
theorem ct_s1 {P : Nat → Bool} {i : Nat} (h : P i = true) : fb_ct P (i + 1) = fb_ct P i + 1 := by rw [fb_ct_succ, h]; rfl
theorem ct_s0 {P : Nat → Bool} {i : Nat} (h : P i = false) : fb_ct P (i + 1) = fb_ct P i := by rw [fb_ct_succ, h]; rfl
theorem l_which {d : Nat} {s : AS} {M : Mem} {w0 : Int32} (hX : XR s M) (hw : inI 0 1 w0) (hg : hC s.2.1 (M 2)) (hk : gok s.2.1) (hM : MPg s.2.1 M) (hL : labN s.2.1 ≤ 48) : ∀ (k i : Nat) (M1 : Mem), labN s.2.1 - i = k → i ≤ labN s.2.1 → FRA M M1 → G l α D cA uX9_which none (d + 6) (PX M (qWhich s.2.1 s.2.2.2.2 w0, s)) 19 [some (.inr 0), some (.inl w0), some (.inl (nI (fb_ct (agB s.2.1 s.2.2.2.2) i))), some (.inl (oI (fnd (agB s.2.1 s.2.2.2.2) i))), some (.inl (nI i))] [] M1 := by
  intro k
  induction k with
  | zero =>
    intro i M1 hk2 hi hF
    have hct := fb_ct_le (agB s.2.1 s.2.2.2.2) i
    refine G_iload dX9_which_19 rfl ?_
    refine G_aload_n dX9_which_21 rfl rfl ?_
    refine G_getR (j := 8) dX9_which_22 fX9_33 rfl rfl ?_
    refine G_callVi (ν := uX1_size) (As := []) dX9_which_25 nX9_201 kX1_size rfl rfl rfl rfl rfl (Nat.le_of_ble_eq_true rfl) (c_msize (MPg_A hM hF).2.1) ?_
    rintro _ M8 ⟨rfl, e9⟩
    subst M8
    refine Gn_icmp_ge (tgt := 77) dX9_which_28 (by decide) (by omega) (by omega) (fun h28 => ?_) (fun h28 => ?_)
    · refine G_iload_n dX9_which_77 rfl rfl ?_
      refine G_if_ne (tgt := 85) dX9_which_78 (by decide) (fun h78 => ?_) (fun h78 => ?_)
      · refine G_iload_n dX9_which_85 rfl rfl ?_
        refine G_iret dX9_which_86 rfl rfl ?_
        have hi : i = labN s.2.1 := by omega
        subst hi
        exact PXq hX (FRQ_A hF) (by rw [qWhich, cI_t hw, cI_f (show ¬ w0 = nI 0 from h78)])
      · refine G_iload_n dX9_which_81 rfl rfl ?_
        refine G_goto (tgt := 86) dX9_which_82 (by decide) ?_
        refine G_iret dX9_which_86 rfl rfl ?_
        have hi : i = labN s.2.1 := by omega
        subst hi
        exact PXq hX (FRQ_A hF) (by rw [qWhich, cI_t hw, cI_t (show w0 = nI 0 from h78)])
    · omega
  | succ k ih =>
    intro i M1 hk2 hi hF
    have hct := fb_ct_le (agB s.2.1 s.2.2.2.2) i
    refine G_iload dX9_which_19 rfl ?_
    refine G_aload_n dX9_which_21 rfl rfl ?_
    refine G_getR (j := 8) dX9_which_22 fX9_33 rfl rfl ?_
    refine G_callVi (ν := uX1_size) (As := []) dX9_which_25 nX9_201 kX1_size rfl rfl rfl rfl rfl (Nat.le_of_ble_eq_true rfl) (c_msize (MPg_A hM hF).2.1) ?_
    rintro _ M8 ⟨rfl, e9⟩
    subst M8
    refine Gn_icmp_ge (tgt := 77) dX9_which_28 (by decide) (by omega) (by omega) (fun h28 => ?_) (fun h28 => ?_)
    · omega
    · refine G_aload_n dX9_which_31 rfl rfl ?_
      refine G_getR (j := 34) dX9_which_32 fX9_54 rfl rfl ?_
      refine G_aload_n dX9_which_35 rfl rfl ?_
      refine G_getR (j := 1) dX9_which_36 fX9_12 rfl rfl ?_
      refine G_aload_n dX9_which_39 rfl rfl ?_
      refine G_getR (j := 8) dX9_which_40 fX9_33 rfl rfl ?_
      refine G_aload_n dX9_which_43 rfl rfl ?_
      refine G_getR (j := 17) dX9_which_44 fX9_40 rfl rfl ?_
      refine G_iload dX9_which_47 rfl ?_
      refine G_callVi (ν := uX3_agree) (As := [.inr 1, .inr 8, .inr 17, .inl (nI i)]) dX9_which_49 nX9_215 kX3_agree rfl rfl rfl rfl rfl (Nat.le_of_ble_eq_true rfl) (c_agree (hC_A hg hF) hk (MPg_A hM hF) (OB_A hX.2.2.2.2.2 hF) (by omega)) ?_
      rintro _ M8 ⟨rfl, e9⟩
      rw [show dec (agr s.2.1 s.2.2.2.2.1 s.2.2.2.2.2.1 s.2.2.2.2.2.2.1 s.2.2.2.2.2.2.2 i) = (agB s.2.1 s.2.2.2.2) i from rfl]
      refine Gb_if_eq (tgt := 71) dX9_which_52 (by decide) (fun h52 => ?_) (fun h52 => ?_)
      · refine G_iinc (v := (nI (i + 1))) (L2 := [some (.inr 0), some (.inl w0), some (.inl (nI (fb_ct (agB s.2.1 s.2.2.2.2) i))), some (.inl (oI (fnd (agB s.2.1 s.2.2.2.2) i))), some (.inl (nI (i + 1)))]) dX9_which_71 rfl (nI_1 _) rfl ?_
        refine G_goto (tgt := 19) dX9_which_74 (by decide) ?_
        rw [show nI (fb_ct (agB s.2.1 s.2.2.2.2) i) = nI (fb_ct (agB s.2.1 s.2.2.2.2) (i + 1)) by rw [ct_s0 h52], show oI (fnd (agB s.2.1 s.2.2.2.2) i) = oI (fnd (agB s.2.1 s.2.2.2.2) (i + 1)) by rw [fnd_s3 h52]]
        exact ih (i + 1) M8 (by omega) (by omega) (FRA_t hF e9)
      · refine G_iinc (v := (nI (fb_ct (agB s.2.1 s.2.2.2.2) i + 1))) (L2 := [some (.inr 0), some (.inl w0), some (.inl (nI (fb_ct (agB s.2.1 s.2.2.2.2) i + 1))), some (.inl (oI (fnd (agB s.2.1 s.2.2.2.2) i))), some (.inl (nI i))]) dX9_which_55 rfl (nI_1 _) rfl ?_
        refine G_iload_n dX9_which_58 rfl rfl ?_
        refine G_bipush (v := ((-9))) dX9_which_59 (by decide) ?_
        refine G_icmp_ne (tgt := 69) dX9_which_61 (by decide) (fun h61 => ?_) (fun h61 => ?_)
        · refine G_iload_n dX9_which_69 rfl rfl ?_
          refine G_istore_n (L2 := [some (.inr 0), some (.inl w0), some (.inl (nI (fb_ct (agB s.2.1 s.2.2.2.2) i + 1))), some (.inl (oI (fnd (agB s.2.1 s.2.2.2.2) i))), some (.inl (nI i))]) dX9_which_70 rfl (Nat.le_of_ble_eq_true rfl) rfl ?_
          refine G_iinc (v := (nI (i + 1))) (L2 := [some (.inr 0), some (.inl w0), some (.inl (nI (fb_ct (agB s.2.1 s.2.2.2.2) i + 1))), some (.inl (oI (fnd (agB s.2.1 s.2.2.2.2) i))), some (.inl (nI (i + 1)))]) dX9_which_71 rfl (nI_1 _) rfl ?_
          refine G_goto (tgt := 19) dX9_which_74 (by decide) ?_
          obtain ⟨b, hb⟩ : ∃ b, fnd (agB s.2.1 s.2.2.2.2) i = some b := by
            cases hq : fnd (agB s.2.1 s.2.2.2.2) i with
            | none => rw [hq] at h61; exact absurd rfl h61
            | some b => exact ⟨b, rfl⟩
          rw [show nI (fb_ct (agB s.2.1 s.2.2.2.2) i + 1) = nI (fb_ct (agB s.2.1 s.2.2.2.2) (i + 1)) by rw [ct_s1 h52], show oI (fnd (agB s.2.1 s.2.2.2.2) i) = oI (fnd (agB s.2.1 s.2.2.2.2) (i + 1)) by rw [hb, fnd_s2 hb]]
          exact ih (i + 1) M8 (by omega) (by omega) (FRA_t hF e9)
        · refine G_iload dX9_which_64 rfl ?_
          refine G_goto (tgt := 70) dX9_which_66 (by decide) ?_
          refine G_istore_n (L2 := [some (.inr 0), some (.inl w0), some (.inl (nI (fb_ct (agB s.2.1 s.2.2.2.2) i + 1))), some (.inl (nI i)), some (.inl (nI i))]) dX9_which_70 rfl (Nat.le_of_ble_eq_true rfl) rfl ?_
          refine G_iinc (v := (nI (i + 1))) (L2 := [some (.inr 0), some (.inl w0), some (.inl (nI (fb_ct (agB s.2.1 s.2.2.2.2) i + 1))), some (.inl (nI i)), some (.inl (nI (i + 1)))]) dX9_which_71 rfl (nI_1 _) rfl ?_
          refine G_goto (tgt := 19) dX9_which_74 (by decide) ?_
          have hb := (oI_none (fun t h => by have := (fnd_some h).1; omega)).mp h61
          rw [show nI (fb_ct (agB s.2.1 s.2.2.2.2) i + 1) = nI (fb_ct (agB s.2.1 s.2.2.2.2) (i + 1)) by rw [ct_s1 h52], show nI i = oI (fnd (agB s.2.1 s.2.2.2.2) (i + 1)) by rw [fnd_s1 h52 hb]; rfl]
          exact ih (i + 1) M8 (by omega) (by omega) (FRA_t hF e9)
theorem x_which {d : Nat} {s : AS} {M : Mem} {w0 : Int32} (hX : XR s M) : Call l α D cA uX9_which (d + 6) [.inr 0, .inl w0] M (PX M (qWhich s.2.1 s.2.2.2.2 w0, s)) := by
  refine Call.of kX9_which.1 (Nat.le_of_ble_eq_true rfl) ?_
  obtain ⟨hg, hk, hM⟩ := rec_x hX
  have hL := labN_48 (g := s.2.1)
  refine G_iload_n dX9_which_0 rfl rfl ?_
  refine G_iconst (v := (nI 0)) dX9_which_1 (by decide) ?_
  refine G_iconst (v := (nI 1)) dX9_which_2 (by decide) ?_
  refine G_callSi (ν := uX9_within) (As := [.inl w0, .inl (nI 0), .inl (nI 1)]) dX9_which_3 nX9_74 kX9_within rfl rfl rfl (Nat.le_of_ble_eq_true rfl) (c_withinI (lo := 0) (hi := 1)) ?_
  rintro _ M8 ⟨rfl, e9⟩
  subst M8
  refine Gb_if_ne (tgt := 11) dX9_which_6 (by decide) (fun h6 => ?_) (fun h6 => ?_)
  · refine G_iconst (v := (nI 0)) dX9_which_11 (by decide) ?_
    refine G_istore_n (L2 := [some (.inr 0), some (.inl w0), some (.inl (nI 0)), none, none]) dX9_which_12 rfl (Nat.le_of_ble_eq_true rfl) rfl ?_
    refine G_bipush (v := ((-9))) dX9_which_13 (by decide) ?_
    refine G_istore_n (L2 := [some (.inr 0), some (.inl w0), some (.inl (nI 0)), some (.inl (-9)), none]) dX9_which_15 rfl (Nat.le_of_ble_eq_true rfl) rfl ?_
    refine G_iconst (v := (nI 0)) dX9_which_16 (by decide) ?_
    refine G_istore (L2 := [some (.inr 0), some (.inl w0), some (.inl (nI 0)), some (.inl (-9)), some (.inl (nI 0))]) dX9_which_17 (Nat.le_of_ble_eq_true rfl) rfl ?_
    exact l_which hX (dec_iff.mp h6) hg hk hM hL _ 0 M rfl (Nat.zero_le _) FRA_r
  · refine G_iconst (v := ((-1))) dX9_which_9 (by decide) ?_
    refine G_iret dX9_which_10 rfl rfl ?_
    exact PXq hX FRQ_r (by rw [qWhich, cI_f (dec_niff.mp h6)])
theorem qCount_0 {s : AS} : qCount s (nI 0) = nI (s.2.1 0) := by unfold qCount; rw [cI_t rfl]
theorem qCount_1 {s : AS} : qCount s (nI 1) = nI (s.2.1 1) := by unfold qCount; rw [cI_f (by decide), cI_t rfl]
theorem qCount_2 {s : AS} : qCount s (nI 2) = nI (labN s.2.1) := by unfold qCount; rw [cI_f (by decide), cI_f (by decide), cI_t rfl]
theorem qCount_3 {s : AS} : qCount s (nI 3) = nI (s.2.1 2) := by unfold qCount; rw [cI_f (by decide), cI_f (by decide), cI_f (by decide), cI_t rfl]
theorem qCount_4 {s : AS} : qCount s (nI 4) = nI (s.2.1 3) := by unfold qCount; rw [cI_f (by decide), cI_f (by decide), cI_f (by decide), cI_f (by decide), cI_t rfl]
theorem qCount_5 {s : AS} : qCount s (nI 5) = nI (fb_ct (fun q => (labF s.2.1 q).isSome) 48) := by unfold qCount; rw [cI_f (by decide), cI_f (by decide), cI_f (by decide), cI_f (by decide), cI_f (by decide), cI_t rfl]
theorem qCount_6 {s : AS} : qCount s (nI 6) = nI s.2.2.2.2.1 := by unfold qCount; rw [cI_f (by decide), cI_f (by decide), cI_f (by decide), cI_f (by decide), cI_f (by decide), cI_f (by decide), cI_t rfl]
theorem qCount_7 {s : AS} : qCount s (nI 7) = nI s.1.1 := by unfold qCount; rw [cI_f (by decide), cI_f (by decide), cI_f (by decide), cI_f (by decide), cI_f (by decide), cI_f (by decide), cI_f (by decide), cI_t rfl]
theorem qCount_8 {s : AS} : qCount s (nI 8) = nI s.2.2.1.1 := by unfold qCount; rw [cI_f (by decide), cI_f (by decide), cI_f (by decide), cI_f (by decide), cI_f (by decide), cI_f (by decide), cI_f (by decide), cI_f (by decide), cI_t rfl]
theorem qCount_no {s : AS} {w : Int32} (h : ¬ inI 0 8 w) : qCount s w = -1 := by
  have : ∀ n, n ≤ 8 → ¬ w = nI n := fun n hn e => h (by rw [e]; exact inI_of (Nat.zero_le _) hn (by decide))
  unfold qCount
  rw [cI_f (this 0 (by decide)), cI_f (this 1 (by decide)), cI_f (this 2 (by decide)), cI_f (this 3 (by decide)), cI_f (this 4 (by decide)), cI_f (this 5 (by decide)), cI_f (this 6 (by decide)), cI_f (this 7 (by decide)), cI_f (this 8 (by decide))]
theorem sw_out {n : Nat} {w : Int32} {k : Int} (h : ¬ inI 0 n w) (hn : n < 2 ^ 31) (hk : k = (n : Int)) : w.toInt < 0 ∨ k < w.toInt := by
  subst hk
  by_cases h1 : w.toInt < 0
  · exact Or.inl h1
  · right
    have h0 : nI 0 ≤ w := by rw [Int32.le_iff_toInt_le]; show (0 : Int) ≤ _; omega
    have h2 : ¬ w ≤ nI n := fun q => h ⟨h0, q⟩
    rw [Int32.le_iff_toInt_le, nI_toInt hn] at h2
    omega
theorem cases_8 {w : Int32} : w = nI 0 ∨ w = nI 1 ∨ w = nI 2 ∨ w = nI 3 ∨ w = nI 4 ∨ w = nI 5 ∨ w = nI 6 ∨ w = nI 7 ∨ w = nI 8 ∨ ¬ inI 0 8 w := by
  by_cases h : inI 0 8 w
  · obtain ⟨j, -, hj, rfl⟩ := inI_nI h (by decide) (by decide)
    rcases (show j = 0 ∨ j = 1 ∨ j = 2 ∨ j = 3 ∨ j = 4 ∨ j = 5 ∨ j = 6 ∨ j = 7 ∨ j = 8 by omega) with rfl | rfl | rfl | rfl | rfl | rfl | rfl | rfl | rfl <;> simp
  · simp [h]
theorem x_count {d : Nat} {s : AS} {M : Mem} {w0 : Int32} (hX : XR s M) : Call l α D cA uX9_count (d + 2) [.inr 0, .inl w0] M (PX M (qCount s w0, s)) := by
  refine Call.of kX9_count.1 (Nat.le_of_ble_eq_true rfl) ?_
  obtain ⟨hg, hk, hM⟩ := rec_x hX
  obtain ⟨nx, hH⟩ := hX.2.2.2.1
  refine G_iload_n dX9_count_0 rfl rfl ?_
  rcases (show w0 = nI 0 ∨ w0 = nI 1 ∨ w0 = nI 2 ∨ w0 = nI 3 ∨ w0 = nI 4 ∨ w0 = nI 5 ∨ w0 = nI 6 ∨ w0 = nI 7 ∨ w0 = nI 8 ∨ ¬ inI 0 8 w0 from cases_8) with rfl | rfl | rfl | rfl | rfl | rfl | rfl | rfl | rfl | hn
  · skip
    refine G_swIn (tgt := 52) dX9_count_1 (by decide) (by decide) rfl (by decide) ?_
    refine G_aload_n dX9_count_52 rfl rfl ?_
    refine G_getR (j := 1) dX9_count_53 fX9_12 rfl rfl ?_
    refine G_callVi (ν := uX0_width) (As := []) dX9_count_56 nX9_227 kX0_width rfl rfl rfl rfl rfl (Nat.le_of_ble_eq_true rfl) (c_width (o := 1) (v := 2) rfl rfl (hg 0 (by decide))) ?_
    rintro _ M8 ⟨rfl, e9⟩
    subst M8
    refine G_iret dX9_count_59 rfl rfl ?_
    exact PXq hX FRQ_r qCount_0
  · skip
    refine G_swIn (tgt := 60) dX9_count_1 (by decide) (by decide) rfl (by decide) ?_
    refine G_aload_n dX9_count_60 rfl rfl ?_
    refine G_getR (j := 1) dX9_count_61 fX9_12 rfl rfl ?_
    refine G_callVi (ν := uX0_height) (As := []) dX9_count_64 nX9_230 kX0_height rfl rfl rfl rfl rfl (Nat.le_of_ble_eq_true rfl) (c_height (o := 1) (v := 2) rfl rfl (hg 1 (by decide))) ?_
    rintro _ M8 ⟨rfl, e9⟩
    subst M8
    refine G_iret dX9_count_67 rfl rfl ?_
    exact PXq hX FRQ_r qCount_1
  · skip
    refine G_swIn (tgt := 68) dX9_count_1 (by decide) (by decide) rfl (by decide) ?_
    refine G_aload_n dX9_count_68 rfl rfl ?_
    refine G_getR (j := 8) dX9_count_69 fX9_33 rfl rfl ?_
    refine G_callVi (ν := uX1_size) (As := []) dX9_count_72 nX9_201 kX1_size rfl rfl rfl rfl rfl (Nat.le_of_ble_eq_true rfl) (c_msize hM.2.1) ?_
    rintro _ M8 ⟨rfl, e9⟩
    subst M8
    refine G_iret dX9_count_75 rfl rfl ?_
    exact PXq hX FRQ_r qCount_2
  · skip
    refine G_swIn (tgt := 76) dX9_count_1 (by decide) (by decide) rfl (by decide) ?_
    refine G_aload_n dX9_count_76 rfl rfl ?_
    refine G_getR (j := 1) dX9_count_77 fX9_12 rfl rfl ?_
    refine G_callVi (ν := uX0_most) (As := []) dX9_count_80 nX9_233 kX0_most rfl rfl rfl rfl rfl (Nat.le_of_ble_eq_true rfl) (c_most (o := 1) (v := 2) rfl rfl (hg 2 (by decide))) ?_
    rintro _ M8 ⟨rfl, e9⟩
    subst M8
    refine G_iret dX9_count_83 rfl rfl ?_
    exact PXq hX FRQ_r qCount_3
  · skip
    refine G_swIn (tgt := 84) dX9_count_1 (by decide) (by decide) rfl (by decide) ?_
    refine G_aload_n dX9_count_84 rfl rfl ?_
    refine G_getR (j := 1) dX9_count_85 fX9_12 rfl rfl ?_
    refine G_callVi (ν := uX0_pull) (As := []) dX9_count_88 nX9_236 kX0_pull rfl rfl rfl rfl rfl (Nat.le_of_ble_eq_true rfl) (c_pull (o := 1) (v := 2) rfl rfl (hg 3 (by decide))) ?_
    rintro _ M8 ⟨rfl, e9⟩
    subst M8
    refine G_iret dX9_count_91 rfl rfl ?_
    exact PXq hX FRQ_r qCount_4
  · skip
    refine G_swIn (tgt := 92) dX9_count_1 (by decide) (by decide) rfl (by decide) ?_
    refine G_aload_n dX9_count_92 rfl rfl ?_
    refine G_getR (j := 8) dX9_count_93 fX9_33 rfl rfl ?_
    refine G_callVi (ν := uX1_cells) (As := []) dX9_count_96 nX9_239 kX1_cells rfl rfl rfl rfl rfl (Nat.le_of_ble_eq_true rfl) (c_mcells hM.2.2.1) ?_
    rintro _ M8 ⟨rfl, e9⟩
    subst M8
    refine G_iret dX9_count_99 rfl rfl ?_
    exact PXq hX FRQ_r qCount_5
  · skip
    refine G_swIn (tgt := 100) dX9_count_1 (by decide) (by decide) rfl (by decide) ?_
    refine G_aload_n dX9_count_100 rfl rfl ?_
    refine G_getR (j := 34) dX9_count_101 fX9_54 rfl rfl ?_
    refine G_callVi (ν := uX3_size) (As := []) dX9_count_104 nX9_209 kX3_size rfl rfl rfl rfl rfl (Nat.le_of_ble_eq_true rfl) (c_osize hX.2.2.2.2.2.1) ?_
    rintro _ M8 ⟨rfl, e9⟩
    subst M8
    refine G_iret dX9_count_107 rfl rfl ?_
    exact PXq hX FRQ_r qCount_6
  · skip
    refine G_swIn (tgt := 108) dX9_count_1 (by decide) (by decide) rfl (by decide) ?_
    refine G_aload_n dX9_count_108 rfl rfl ?_
    refine G_getR (j := 3) dX9_count_109 fX9_19 rfl rfl ?_
    refine G_callVi (ν := uX7_length) (As := []) dX9_count_112 nX9_78 kX7_length rfl rfl rfl rfl rfl (Nat.le_of_ble_eq_true rfl) (c_tlength hX.2.1.1) ?_
    rintro _ M8 ⟨rfl, e9⟩
    subst M8
    refine G_iret dX9_count_115 rfl rfl ?_
    exact PXq hX FRQ_r qCount_7
  · skip
    refine G_swIn (tgt := 116) dX9_count_1 (by decide) (by decide) rfl (by decide) ?_
    refine G_aload_n dX9_count_116 rfl rfl ?_
    refine G_getR (j := 38) dX9_count_117 fX9_61 rfl rfl ?_
    refine G_callVi (ν := uX2_size) (As := []) dX9_count_120 nX9_126 kX2_size rfl rfl rfl rfl rfl (Nat.le_of_ble_eq_true rfl) (c_hsize hH.2.1) ?_
    rintro _ M8 ⟨rfl, e9⟩
    subst M8
    refine G_iret dX9_count_123 rfl rfl ?_
    exact PXq hX FRQ_r qCount_8
  · skip
    refine G_swOut (tgt := 124) dX9_count_1 (sw_out (n := 8) hn (by decide) rfl) (by decide) ?_
    refine G_iconst (v := ((-1))) dX9_count_124 (by decide) ?_
    refine G_iret dX9_count_125 rfl rfl ?_
    exact PXq hX FRQ_r (qCount_no hn)
end P25
