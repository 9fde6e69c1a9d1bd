/-! SewnFields: the queries -/
section P25
variable {l : Launch} {α : Nat → Nat} {D : va_G} {cA : Nat → ClassId}
theorem dd {P : Prop} [i : Decidable P] : decide P = dec P := by
  by_cases h : P
  · rw [dec_t h, decide_eq_true h]
  · rw [dec_f h, decide_eq_false h]
theorem PXq {s : AS} {M M1 : Mem} {a ans : Int32} (h : XR s M) (hF : FRQ M M1) (e : a = ans) : PX M (a, s) (.inl ans) M1 := by
  subst e
  exact ⟨rfl, XR_Q h hF, fun q hq => hF q (by omega)⟩
theorem c_withinI {d lo hi : Nat} {x : Int32} {M : Mem} : Call l α D cA uX9_within d [.inl x, .inl (nI lo), .inl (nI hi)] M (fun r M1 => r = .inl (bI (dec (inI lo hi x))) ∧ M1 = M) :=
  c_within.mono (by rintro r M1 ⟨rfl, rfl⟩; exact ⟨by rw [dd]; rfl, rfl⟩)
theorem c_hasF {d : Nat} {g : Nat → Nat} {f : Int32} {M : Mem} (hM : MPg g M) : Call l α D cA uX1_has d [.inr 8, .inl f] M (fun r M1 => r = .inl (bI (dec (hasF g f))) ∧ M1 = M) :=
  (c_mhas hM.2.1 labN_48).mono (by rintro r M1 ⟨rfl, rfl⟩; exact ⟨by rw [dd]; rfl, rfl⟩)
theorem c_hasG {d : Nat} {g : Nat → Nat} {x y : Int32} {M : Mem} (hg : hC g (M 2)) (hk : gok g) : Call l α D cA uX0_has (d + 1) [.inr 1, .inl x, .inl y] M (fun r M1 => r = .inl (bI (hasD (g 0) (g 1) x y)) ∧ M1 = M) :=
  c_has (o := 1) (v := 2) rfl rfl (hg 0 (by decide)) (hg 1 (by decide)) hk.1.1 hk.2.1.1 hk.1.2 hk.2.1.2
theorem qField_is {g : Nat → Nat} {f w : Nat} (hf : f < labN g) (hw : w ≤ 7) : qField g (nI f) (nI w) = fldA g f w := by
  have := labN_48 (g := g)
  rw [qField, cI_t ⟨hasF_of hf, inI_of (Nat.zero_le _) hw (by decide)⟩, nN (by omega), nN (by omega)]
theorem qSewn_is {g : Nat → Nat} {f v w : Nat} (hf : f < labN g) (hv : v ≤ 1) (hw : w ≤ 3) : qSewn g (nI f) (nI v) (nI w) = nI (figG g v f w) := by
  have := labN_48 (g := g)
  rw [qSewn, cI_t ⟨hasF_of hf, inI_of (Nat.zero_le _) hv (by decide), inI_of (Nat.zero_le _) hw (by decide)⟩, nN (by omega), nN (by omega), nN (by omega)]
theorem qRow_no {g : Nat → Nat} {f v r w : Nat} (hf : f < labN g) (hv : v ≤ 1) (hw : w ≤ 3) (hr : r < 2 ^ 31) (h : ¬ r < (rwG g v f).1) (hb : (rwG g v f).1 ≤ 48) : qRow g (nI f) (nI v) (nI r) (nI w) = -9 := by
  have := labN_48 (g := g)
  rw [qRow, cI_t ⟨hasF_of hf, inI_of (Nat.zero_le _) hv (by decide), nI_pos' hr, inI_of (Nat.zero_le _) hw (by decide)⟩, nN (by omega), nN (by omega), nN (by omega), cI_f (fun q => h ((nI_ltI hr (by omega)).mp q))]
theorem qRow_is {g : Nat → Nat} {f v r w : Nat} (hf : f < labN g) (hv : v ≤ 1) (hw : w ≤ 3) (h : r < (rwG g v f).1) (hb : (rwG g v f).1 ≤ 48) : qRow g (nI f) (nI v) (nI r) (nI w) = nI (rowV g v f r w) := by
  have := labN_48 (g := g)
  rw [qRow, cI_t ⟨hasF_of hf, inI_of (Nat.zero_le _) hv (by decide), nI_pos' (by omega), inI_of (Nat.zero_le _) hw (by decide)⟩, nN (by omega), nN (by omega), nN (by omega), nN (by omega), cI_t ((nI_ltI (by omega) (by omega)).mpr h)]
theorem qPart_no {g : Nat → Nat} {f v r w : Nat} (hf : f < labN g) (hv : v ≤ 1) (hw : w ≤ 3) (hr : r < 2 ^ 31) (h : ¬ r < (psS (rwG g v f)).1) (hb : (psS (rwG g v f)).1 ≤ 48) : qPart g (nI f) (nI v) (nI r) (nI w) = -9 := by
  have := labN_48 (g := g)
  rw [qPart, cI_t ⟨hasF_of hf, inI_of (Nat.zero_le _) hv (by decide), nI_pos' hr, inI_of (Nat.zero_le _) hw (by decide)⟩, nN (by omega), nN (by omega), cI_f (fun q => h ((nI_ltI hr (by omega)).mp q))]
theorem qPart_is {g : Nat → Nat} {f v r w : Nat} (hf : f < labN g) (hv : v ≤ 1) (hw : w ≤ 3) (h : r < (psS (rwG g v f)).1) (hb : (psS (rwG g v f)).1 ≤ 48) : qPart g (nI f) (nI v) (nI r) (nI w) = parV g v f r w := by
  have := labN_48 (g := g)
  rw [qPart, cI_t ⟨hasF_of hf, inI_of (Nat.zero_le _) hv (by decide), nI_pos' (by omega), inI_of (Nat.zero_le _) hw (by decide)⟩, nN (by omega), nN (by omega), nN (by omega), nN (by omega), cI_t ((nI_ltI (by omega) (by omega)).mpr h)]
theorem rw_48 {g : Nat → Nat} {v f : Nat} (hk : gok g) : (rwG g v f).1 ≤ 48 ∧ (psS (rwG g v f)).1 ≤ 48 := by
  have h := rwS_RB (F := labF g) (w := v) (f := f) hk.1.2 hk.2.1.2
  have h2 := rwS_PI (F := labF g) (w := v) (f := f) (W := g 0) (H := g 1)
  exact ⟨h.1, Nat.le_trans h2.1 h.1⟩
theorem hf_lt {g : Nat → Nat} {f : Nat} (h : f < labN g) : f < 48 := Nat.lt_of_lt_of_le h labN_48
theorem x_field {d : Nat} {s : AS} {M : Mem} {f0 w0 : Int32} (hX : XR s M) : Call l α D cA uX9_field (d + 6) [.inr 0, .inl f0, .inl w0] M (PX M (qField s.2.1 f0 w0, s)) := by
  refine Call.of kX9_field.1 (Nat.le_of_ble_eq_true rfl) ?_
  obtain ⟨hg, hk, hM⟩ := rec_x hX
  refine G_aload_n dX9_field_0 rfl rfl ?_
  refine G_getR (j := 8) dX9_field_1 fX9_33 rfl rfl ?_
  refine G_iload_n dX9_field_4 rfl rfl ?_
  refine G_callVi (ν := uX1_has) (As := [.inl f0]) dX9_field_5 nX9_139 kX1_has rfl rfl rfl rfl rfl (Nat.le_of_ble_eq_true rfl) (c_hasF (g := s.2.1) hM) ?_
  rintro _ M8 ⟨rfl, e9⟩
  subst M8
  refine Gb_if_eq (tgt := 21) dX9_field_8 (by decide) (fun h8 => ?_) (fun h8 => ?_)
  · refine G_iconst (v := ((-1))) dX9_field_21 (by decide) ?_
    refine G_iret dX9_field_22 rfl rfl ?_
    exact PXq hX FRQ_r (by rw [qField, cI_f (fun q => dec_niff.mp h8 q.1)])
  · refine G_iload_n dX9_field_11 rfl rfl ?_
    refine G_iconst (v := (nI 0)) dX9_field_12 (by decide) ?_
    refine G_bipush (v := (nI 7)) dX9_field_13 (by decide) ?_
    refine G_callSi (ν := uX9_within) (As := [.inl w0, .inl (nI 0), .inl (nI 7)]) dX9_field_15 nX9_74 kX9_within rfl rfl rfl (Nat.le_of_ble_eq_true rfl) (c_withinI (lo := 0) (hi := 7)) ?_
    rintro _ M8 ⟨rfl, e9⟩
    subst M8
    refine Gb_if_ne (tgt := 23) dX9_field_18 (by decide) (fun h18 => ?_) (fun h18 => ?_)
    · obtain ⟨f, hf, rfl⟩ := hasF_nI (dec_iff.mp h8)
      obtain ⟨w, -, hw, rfl⟩ := inI_nI (dec_iff.mp h18) (by decide) (by decide)
      rcases (show w = 0 ∨ w = 1 ∨ w = 2 ∨ w = 3 ∨ w = 4 ∨ w = 5 ∨ w = 6 ∨ w = 7 by omega) with rfl | rfl | rfl | rfl | rfl | rfl | rfl | rfl
      · skip
        refine G_iload_n dX9_field_23 rfl rfl ?_
        refine G_swIn (tgt := 72) dX9_field_24 (by decide) (by decide) rfl (by decide) ?_
        refine G_aload_n dX9_field_72 rfl rfl ?_
        refine G_getR (j := 8) dX9_field_73 fX9_33 rfl rfl ?_
        refine G_iload_n dX9_field_76 rfl rfl ?_
        refine G_callVi (ν := uX1_colourOf) (As := [.inl (nI f)]) dX9_field_77 nX9_142 kX1_colourOf rfl rfl rfl rfl rfl (Nat.le_of_ble_eq_true rfl) (c_colourOf (hf_lt hf) (hM.2.2.2 f hf).1) ?_
        rintro _ M8 ⟨rfl, e9⟩
        subst M8
        refine G_iret dX9_field_80 rfl rfl ?_
        exact PXq hX FRQ_r (qField_is hf (by decide))
      · skip
        refine G_iload_n dX9_field_23 rfl rfl ?_
        refine G_swIn (tgt := 81) dX9_field_24 (by decide) (by decide) rfl (by decide) ?_
        refine G_aload_n dX9_field_81 rfl rfl ?_
        refine G_getR (j := 8) dX9_field_82 fX9_33 rfl rfl ?_
        refine G_iload_n dX9_field_85 rfl rfl ?_
        refine G_callVi (ν := uX1_sizeOf) (As := [.inl (nI f)]) dX9_field_86 nX9_145 kX1_sizeOf rfl rfl rfl rfl rfl (Nat.le_of_ble_eq_true rfl) (c_sizeOf (hf_lt hf) (hM.2.2.2 f hf).2.1) ?_
        rintro _ M8 ⟨rfl, e9⟩
        subst M8
        refine G_iret dX9_field_89 rfl rfl ?_
        exact PXq hX FRQ_r (qField_is hf (by decide))
      · skip
        refine G_iload_n dX9_field_23 rfl rfl ?_
        refine G_swIn (tgt := 90) dX9_field_24 (by decide) (by decide) rfl (by decide) ?_
        refine G_aload_n dX9_field_90 rfl rfl ?_
        refine G_getR (j := 1) dX9_field_91 fX9_12 rfl rfl ?_
        refine G_aload_n dX9_field_94 rfl rfl ?_
        refine G_getR (j := 8) dX9_field_95 fX9_33 rfl rfl ?_
        refine G_iload_n dX9_field_98 rfl rfl ?_
        refine G_callVi (ν := uX1_smallestOf) (As := [.inl (nI f)]) dX9_field_99 nX9_148 kX1_smallestOf rfl rfl rfl rfl rfl (Nat.le_of_ble_eq_true rfl) (c_smallestOf (hf_lt hf) (hM.2.2.2 f hf).2.2) ?_
        rintro _ M8 ⟨rfl, e9⟩
        subst M8
        refine G_callVi (ν := uX0_numberOf) (As := [.inl (nI (labR s.2.1 f))]) dX9_field_102 nX9_151 kX0_numberOf rfl rfl rfl rfl rfl (Nat.le_of_ble_eq_true rfl) (c_numberOf (o := 1) (v := 2) rfl rfl (hg 0 (by decide)) (col_in hk hf).2.2 hk.1.2) ?_
        rintro _ M8 ⟨rfl, e9⟩
        subst M8
        refine G_iret dX9_field_105 rfl rfl ?_
        exact PXq hX FRQ_r (qField_is hf (by decide))
      · skip
        refine G_iload_n dX9_field_23 rfl rfl ?_
        refine G_swIn (tgt := 106) dX9_field_24 (by decide) (by decide) rfl (by decide) ?_
        refine G_aload_n dX9_field_106 rfl rfl ?_
        refine G_iload_n dX9_field_107 rfl rfl ?_
        refine G_callVi (ν := uX9_betterWay) (As := [.inl (nI f)]) dX9_field_108 nX9_154 kX9_betterWay rfl rfl rfl rfl rfl (Nat.le_of_ble_eq_true rfl) (c_better hg hk hM hf) ?_
        rintro _ M8 ⟨rfl, e9⟩
        refine G_iret dX9_field_111 rfl rfl ?_
        exact PXq hX (FRQ_A e9) (qField_is hf (by decide))
      · skip
        refine G_iload_n dX9_field_23 rfl rfl ?_
        refine G_swIn (tgt := 121) dX9_field_24 (by decide) (by decide) rfl (by decide) ?_
        refine G_aload_n dX9_field_121 rfl rfl ?_
        refine G_iload_n dX9_field_122 rfl rfl ?_
        refine G_iload_n dX9_field_123 rfl rfl ?_
        refine G_callVi (ν := uX9_covered) (As := [.inl (nI f), .inl (nI 4)]) dX9_field_124 nX9_160 kX9_covered rfl rfl rfl rfl rfl (Nat.le_of_ble_eq_true rfl) (c_covered_4 hg hk hM hf) ?_
        rintro _ M8 ⟨rfl, e9⟩
        refine G_iret dX9_field_127 rfl rfl ?_
        exact PXq hX (FRQ_A e9) (qField_is hf (by decide))
      · skip
        refine G_iload_n dX9_field_23 rfl rfl ?_
        refine G_swIn (tgt := 121) dX9_field_24 (by decide) (by decide) rfl (by decide) ?_
        refine G_aload_n dX9_field_121 rfl rfl ?_
        refine G_iload_n dX9_field_122 rfl rfl ?_
        refine G_iload_n dX9_field_123 rfl rfl ?_
        refine G_callVi (ν := uX9_covered) (As := [.inl (nI f), .inl (nI 5)]) dX9_field_124 nX9_160 kX9_covered rfl rfl rfl rfl rfl (Nat.le_of_ble_eq_true rfl) (c_covered_5 hg hk hM hf) ?_
        rintro _ M8 ⟨rfl, e9⟩
        refine G_iret dX9_field_127 rfl rfl ?_
        exact PXq hX (FRQ_A e9) (qField_is hf (by decide))
      · skip
        refine G_iload_n dX9_field_23 rfl rfl ?_
        refine G_swIn (tgt := 121) dX9_field_24 (by decide) (by decide) rfl (by decide) ?_
        refine G_aload_n dX9_field_121 rfl rfl ?_
        refine G_iload_n dX9_field_122 rfl rfl ?_
        refine G_iload_n dX9_field_123 rfl rfl ?_
        refine G_callVi (ν := uX9_covered) (As := [.inl (nI f), .inl (nI 6)]) dX9_field_124 nX9_160 kX9_covered rfl rfl rfl rfl rfl (Nat.le_of_ble_eq_true rfl) (c_covered_6 hg hk hM hf) ?_
        rintro _ M8 ⟨rfl, e9⟩
        refine G_iret dX9_field_127 rfl rfl ?_
        exact PXq hX (FRQ_A e9) (qField_is hf (by decide))
      · skip
        refine G_iload_n dX9_field_23 rfl rfl ?_
        refine G_swIn (tgt := 112) dX9_field_24 (by decide) (by decide) rfl (by decide) ?_
        refine G_aload_n dX9_field_112 rfl rfl ?_
        refine G_getR (j := 8) dX9_field_113 fX9_33 rfl rfl ?_
        refine G_iload_n dX9_field_116 rfl rfl ?_
        refine G_callVi (ν := uX1_touching) (As := [.inl (nI f)]) dX9_field_117 nX9_157 kX1_touching rfl rfl rfl rfl rfl (Nat.le_of_ble_eq_true rfl) (c_touching hM.1 labF_lt (hf_lt hf)) ?_
        rintro _ M8 ⟨rfl, b9, e9⟩
        refine G_iret dX9_field_120 rfl rfl ?_
        exact PXq hX (fun q hq => by rw [e9]; exact mo_q (by omega)) (qField_is hf (by decide))
    · refine G_iconst (v := ((-1))) dX9_field_21 (by decide) ?_
      refine G_iret dX9_field_22 rfl rfl ?_
      exact PXq hX FRQ_r (by rw [qField, cI_f (fun q => dec_niff.mp h18 q.2)])
theorem hasD_of {w h x y : Nat} (hx : x < w) (hy : y < h) (w8 : w ≤ 8) (h6 : h ≤ 6) : hasD w h (nI x) (nI y) = true := by
  unfold hasD
  rw [inr_nI (Nat.zero_le _) (by omega) (by omega), inr_nI (Nat.zero_le _) (by omega) (by omega)]
  rfl
theorem qCell_c {g : Nat → Nat} {x y : Nat} (hk : gok g) (hx : x < g 0) (hy : y < g 1) : qCell g (nI x) (nI y) (nI 0) = nI (g (12 + (8 * y + x))) := by
  have := hk.1.2
  have := hk.2.1.2
  rw [qCell, cI_t ⟨hasD_of hx hy hk.1.2 hk.2.1.2, inI_of (Nat.zero_le _) (by decide) (by decide)⟩, cI_t rfl, nN (by omega), nN (by omega)]
theorem qCell_f {g : Nat → Nat} {x y : Nat} (hk : gok g) (hx : x < g 0) (hy : y < g 1) : qCell g (nI x) (nI y) (nI 1) = oI (labF g (8 * y + x)) := by
  have := hk.1.2
  have := hk.2.1.2
  rw [qCell, cI_t ⟨hasD_of hx hy hk.1.2 hk.2.1.2, inI_of (Nat.zero_le _) (by decide) (by decide)⟩, cI_f (by decide), nN (by omega), nN (by omega)]
theorem x_cell {d : Nat} {s : AS} {M : Mem} {x0 y0 w0 : Int32} (hX : XR s M) : Call l α D cA uX9_cell (d + 2) [.inr 0, .inl x0, .inl y0, .inl w0] M (PX M (qCell s.2.1 x0 y0 w0, s)) := by
  refine Call.of kX9_cell.1 (Nat.le_of_ble_eq_true rfl) ?_
  obtain ⟨hg, hk, hM⟩ := rec_x hX
  refine G_aload_n dX9_cell_0 rfl rfl ?_
  refine G_getR (j := 1) dX9_cell_1 fX9_12 rfl rfl ?_
  refine G_iload_n dX9_cell_4 rfl rfl ?_
  refine G_iload_n dX9_cell_5 rfl rfl ?_
  refine G_callVi (ν := uX0_has) (As := [.inl x0, .inl y0]) dX9_cell_6 nX9_107 kX0_has rfl rfl rfl rfl rfl (Nat.le_of_ble_eq_true rfl) (c_hasG (g := s.2.1) hg hk) ?_
  rintro _ M8 ⟨rfl, e9⟩
  subst M8
  refine Gb_if_eq (tgt := 21) dX9_cell_9 (by decide) (fun h9 => ?_) (fun h9 => ?_)
  · refine G_iconst (v := ((-1))) dX9_cell_21 (by decide) ?_
    refine G_iret dX9_cell_22 rfl rfl ?_
    exact PXq hX FRQ_r (by rw [qCell, cI_f (fun q => notrue h9 q.1)])
  · refine G_iload_n dX9_cell_12 rfl rfl ?_
    refine G_iconst (v := (nI 0)) dX9_cell_13 (by decide) ?_
    refine G_iconst (v := (nI 1)) dX9_cell_14 (by decide) ?_
    refine G_callSi (ν := uX9_within) (As := [.inl w0, .inl (nI 0), .inl (nI 1)]) dX9_cell_15 nX9_74 kX9_within rfl rfl rfl (Nat.le_of_ble_eq_true rfl) (c_withinI (lo := 0) (hi := 1)) ?_
    rintro _ M8 ⟨rfl, e9⟩
    subst M8
    refine Gb_if_ne (tgt := 23) dX9_cell_18 (by decide) (fun h18 => ?_) (fun h18 => ?_)
    · obtain ⟨x, y, hx, hy, rfl, rfl⟩ := hasD_nI h9 hk.1.1 hk.2.1.1 hk.1.2 hk.2.1.2
      obtain ⟨w, -, hw, rfl⟩ := inI_nI (dec_iff.mp h18) (by decide) (by decide)
      have hk1 := hk.1.2
      have hk2 := hk.2.1.2
      rcases (show w = 0 ∨ w = 1 by omega) with rfl | rfl
      · skip
        refine G_iload_n dX9_cell_23 rfl rfl ?_
        refine G_iload_n dX9_cell_24 rfl rfl ?_
        refine G_callSi (ν := uX9_placeOf) (As := [.inl (nI x), .inl (nI y)]) dX9_cell_25 nX9_115 kX9_placeOf rfl rfl rfl (Nat.le_of_ble_eq_true rfl) (c_placeOf (x := x) (y := y) (by omega) (by omega)) ?_
        rintro _ M8 ⟨rfl, e9⟩
        subst M8
        refine G_istore (L2 := [some (.inr 0), some (.inl (nI x)), some (.inl (nI y)), some (.inl (nI 0)), some (.inl (nI (8 * y + x)))]) dX9_cell_28 (Nat.le_of_ble_eq_true rfl) rfl ?_
        refine G_iload_n dX9_cell_30 rfl rfl ?_
        refine Gn_if_ne (tgt := 46) dX9_cell_31 (by decide) (by omega) (fun h31 => ?_) (fun h31 => ?_)
        · omega
        · refine G_aload_n dX9_cell_34 rfl rfl ?_
          refine G_getR (j := 1) dX9_cell_35 fX9_12 rfl rfl ?_
          refine G_iload dX9_cell_38 rfl ?_
          refine G_callVi (ν := uX0_colourAt) (As := [.inl (nI (8 * y + x))]) dX9_cell_40 nX9_132 kX0_colourAt rfl rfl rfl rfl rfl (Nat.le_of_ble_eq_true rfl) (c_colourAt (o := 1) (v := 2) rfl rfl hg (by omega)) ?_
          rintro _ M8 ⟨rfl, e9⟩
          subst M8
          refine G_goto (tgt := 55) dX9_cell_43 (by decide) ?_
          refine G_iret dX9_cell_55 rfl rfl ?_
          exact PXq hX FRQ_r (qCell_c hk hx hy)
      · skip
        refine G_iload_n dX9_cell_23 rfl rfl ?_
        refine G_iload_n dX9_cell_24 rfl rfl ?_
        refine G_callSi (ν := uX9_placeOf) (As := [.inl (nI x), .inl (nI y)]) dX9_cell_25 nX9_115 kX9_placeOf rfl rfl rfl (Nat.le_of_ble_eq_true rfl) (c_placeOf (x := x) (y := y) (by omega) (by omega)) ?_
        rintro _ M8 ⟨rfl, e9⟩
        subst M8
        refine G_istore (L2 := [some (.inr 0), some (.inl (nI x)), some (.inl (nI y)), some (.inl (nI 1)), some (.inl (nI (8 * y + x)))]) dX9_cell_28 (Nat.le_of_ble_eq_true rfl) rfl ?_
        refine G_iload_n dX9_cell_30 rfl rfl ?_
        refine Gn_if_ne (tgt := 46) dX9_cell_31 (by decide) (by omega) (fun h31 => ?_) (fun h31 => ?_)
        · refine G_aload_n dX9_cell_46 rfl rfl ?_
          refine G_getR (j := 8) dX9_cell_47 fX9_33 rfl rfl ?_
          refine G_iload dX9_cell_50 rfl ?_
          refine G_callVi (ν := uX1_fieldAt) (As := [.inl (nI (8 * y + x))]) dX9_cell_52 nX9_136 kX1_fieldAt rfl rfl rfl rfl rfl (Nat.le_of_ble_eq_true rfl) (c_fieldAt (by omega) (hM.1 _ (by omega))) ?_
          rintro _ M8 ⟨rfl, e9⟩
          subst M8
          refine G_iret dX9_cell_55 rfl rfl ?_
          exact PXq hX FRQ_r (qCell_f hk hx hy)
        · omega
    · refine G_iconst (v := ((-1))) dX9_cell_21 (by decide) ?_
      refine G_iret dX9_cell_22 rfl rfl ?_
      exact PXq hX FRQ_r (by rw [qCell, cI_f (fun q => dec_niff.mp h18 q.2)])
theorem x_sewn {d : Nat} {s : AS} {M : Mem} {f0 v0 w0 : Int32} (hX : XR s M) : Call l α D cA uX9_sewn (d + 5) [.inr 0, .inl f0, .inl v0, .inl w0] M (PX M (qSewn s.2.1 f0 v0 w0, s)) := by
  refine Call.of kX9_sewn.1 (Nat.le_of_ble_eq_true rfl) ?_
  obtain ⟨hg, hk, hM⟩ := rec_x hX
  refine G_aload_n dX9_sewn_0 rfl rfl ?_
  refine G_getR (j := 8) dX9_sewn_1 fX9_33 rfl rfl ?_
  refine G_iload_n dX9_sewn_4 rfl rfl ?_
  refine G_callVi (ν := uX1_has) (As := [.inl f0]) dX9_sewn_5 nX9_139 kX1_has rfl rfl rfl rfl rfl (Nat.le_of_ble_eq_true rfl) (c_hasF (g := s.2.1) hM) ?_
  rintro _ M8 ⟨rfl, e9⟩
  subst M8
  refine Gb_if_eq (tgt := 29) dX9_sewn_8 (by decide) (fun h8 => ?_) (fun h8 => ?_)
  · refine G_iconst (v := ((-1))) dX9_sewn_29 (by decide) ?_
    refine G_iret dX9_sewn_30 rfl rfl ?_
    exact PXq hX FRQ_r (by rw [qSewn, cI_f (fun q => dec_niff.mp h8 q.1)])
  · refine G_iload_n dX9_sewn_11 rfl rfl ?_
    refine G_iconst (v := (nI 0)) dX9_sewn_12 (by decide) ?_
    refine G_iconst (v := (nI 1)) dX9_sewn_13 (by decide) ?_
    refine G_callSi (ν := uX9_within) (As := [.inl v0, .inl (nI 0), .inl (nI 1)]) dX9_sewn_14 nX9_74 kX9_within rfl rfl rfl (Nat.le_of_ble_eq_true rfl) (c_withinI (lo := 0) (hi := 1)) ?_
    rintro _ M8 ⟨rfl, e9⟩
    subst M8
    refine Gb_if_eq (tgt := 29) dX9_sewn_17 (by decide) (fun h17 => ?_) (fun h17 => ?_)
    · refine G_iconst (v := ((-1))) dX9_sewn_29 (by decide) ?_
      refine G_iret dX9_sewn_30 rfl rfl ?_
      exact PXq hX FRQ_r (by rw [qSewn, cI_f (fun q => dec_niff.mp h17 q.2.1)])
    · refine G_iload_n dX9_sewn_20 rfl rfl ?_
      refine G_iconst (v := (nI 0)) dX9_sewn_21 (by decide) ?_
      refine G_iconst (v := (nI 3)) dX9_sewn_22 (by decide) ?_
      refine G_callSi (ν := uX9_within) (As := [.inl w0, .inl (nI 0), .inl (nI 3)]) dX9_sewn_23 nX9_74 kX9_within rfl rfl rfl (Nat.le_of_ble_eq_true rfl) (c_withinI (lo := 0) (hi := 3)) ?_
      rintro _ M8 ⟨rfl, e9⟩
      subst M8
      refine Gb_if_ne (tgt := 31) dX9_sewn_26 (by decide) (fun h26 => ?_) (fun h26 => ?_)
      · obtain ⟨f, hf, rfl⟩ := hasF_nI (dec_iff.mp h8)
        obtain ⟨v, -, hv, rfl⟩ := inI_nI (dec_iff.mp h17) (by decide) (by decide)
        obtain ⟨w, -, hw, rfl⟩ := inI_nI (dec_iff.mp h26) (by decide) (by decide)
        refine G_aload_n dX9_sewn_31 rfl rfl ?_
        refine G_getR (j := 17) dX9_sewn_32 fX9_40 rfl rfl ?_
        refine G_aload_n dX9_sewn_35 rfl rfl ?_
        refine G_getR (j := 1) dX9_sewn_36 fX9_12 rfl rfl ?_
        refine G_aload_n dX9_sewn_39 rfl rfl ?_
        refine G_getR (j := 8) dX9_sewn_40 fX9_33 rfl rfl ?_
        refine G_iload_n dX9_sewn_43 rfl rfl ?_
        refine G_iload_n dX9_sewn_44 rfl rfl ?_
        refine G_callVv (ν := uX5_lay) (As := [.inr 1, .inr 8, .inl (nI f), .inl (nI v)]) dX9_sewn_45 nX9_163 kX5_lay rfl rfl rfl rfl rfl (Nat.le_of_ble_eq_true rfl) (c_layG hg hk hM hf (by omega)) ?_
        rintro _ Ma ⟨hFa, hSa⟩
        have hga := hC_A hg hFa
        refine G_aload_n dX9_sewn_48 rfl rfl ?_
        refine G_getR (j := 17) dX9_sewn_49 fX9_40 rfl rfl ?_
        refine G_aload_n dX9_sewn_52 rfl rfl ?_
        refine G_getR (j := 1) dX9_sewn_53 fX9_12 rfl rfl ?_
        refine G_iload_n dX9_sewn_56 rfl rfl ?_
        refine G_callVi (ν := uX5_figure) (As := [.inr 1, .inl (nI w)]) dX9_sewn_57 nX9_167 kX5_figure rfl rfl rfl rfl rfl (Nat.le_of_ble_eq_true rfl) (c_figG hga hk hSa (by omega)) ?_
        rintro _ M8 ⟨rfl, e9⟩
        refine G_iret dX9_sewn_60 rfl rfl ?_
        exact PXq hX (FRQ_A (FRA_t hFa e9)) (qSewn_is hf hv hw)
      · refine G_iconst (v := ((-1))) dX9_sewn_29 (by decide) ?_
        refine G_iret dX9_sewn_30 rfl rfl ?_
        exact PXq hX FRQ_r (by rw [qSewn, cI_f (fun q => dec_niff.mp h26 q.2.2)])
theorem x_row {d : Nat} {s : AS} {M : Mem} {f0 v0 r0 w0 : Int32} (hX : XR s M) : Call l α D cA uX9_row (d + 5) [.inr 0, .inl f0, .inl v0, .inl r0, .inl w0] M (PX M (qRow s.2.1 f0 v0 r0 w0, s)) := by
  refine Call.of kX9_row.1 (Nat.le_of_ble_eq_true rfl) ?_
  obtain ⟨hg, hk, hM⟩ := rec_x hX
  refine G_aload_n dX9_row_0 rfl rfl ?_
  refine G_getR (j := 8) dX9_row_1 fX9_33 rfl rfl ?_
  refine G_iload_n dX9_row_4 rfl rfl ?_
  refine G_callVi (ν := uX1_has) (As := [.inl f0]) dX9_row_5 nX9_139 kX1_has rfl rfl rfl rfl rfl (Nat.le_of_ble_eq_true rfl) (c_hasF (g := s.2.1) hM) ?_
  rintro _ M8 ⟨rfl, e9⟩
  subst M8
  refine Gb_if_eq (tgt := 34) dX9_row_8 (by decide) (fun h8 => ?_) (fun h8 => ?_)
  · refine G_iconst (v := ((-1))) dX9_row_34 (by decide) ?_
    refine G_iret dX9_row_35 rfl rfl ?_
    exact PXq hX FRQ_r (by rw [qRow, cI_f (fun q => dec_niff.mp h8 q.1)])
  · refine G_iload_n dX9_row_11 rfl rfl ?_
    refine G_iconst (v := (nI 0)) dX9_row_12 (by decide) ?_
    refine G_iconst (v := (nI 1)) dX9_row_13 (by decide) ?_
    refine G_callSi (ν := uX9_within) (As := [.inl v0, .inl (nI 0), .inl (nI 1)]) dX9_row_14 nX9_74 kX9_within rfl rfl rfl (Nat.le_of_ble_eq_true rfl) (c_withinI (lo := 0) (hi := 1)) ?_
    rintro _ M8 ⟨rfl, e9⟩
    subst M8
    refine Gb_if_eq (tgt := 34) dX9_row_17 (by decide) (fun h17 => ?_) (fun h17 => ?_)
    · refine G_iconst (v := ((-1))) dX9_row_34 (by decide) ?_
      refine G_iret dX9_row_35 rfl rfl ?_
      exact PXq hX FRQ_r (by rw [qRow, cI_f (fun q => dec_niff.mp h17 q.2.1)])
    · refine G_iload_n dX9_row_20 rfl rfl ?_
      refine G_if_lt (tgt := 34) dX9_row_21 (by decide) (fun h21 => ?_) (fun h21 => ?_)
      · refine G_iconst (v := ((-1))) dX9_row_34 (by decide) ?_
        refine G_iret dX9_row_35 rfl rfl ?_
        exact PXq hX FRQ_r (by rw [qRow, cI_f (fun q => (by have := q.2.2.1; grind))])
      · refine G_iload dX9_row_24 rfl ?_
        refine G_iconst (v := (nI 0)) dX9_row_26 (by decide) ?_
        refine G_iconst (v := (nI 3)) dX9_row_27 (by decide) ?_
        refine G_callSi (ν := uX9_within) (As := [.inl w0, .inl (nI 0), .inl (nI 3)]) dX9_row_28 nX9_74 kX9_within rfl rfl rfl (Nat.le_of_ble_eq_true rfl) (c_withinI (lo := 0) (hi := 3)) ?_
        rintro _ M8 ⟨rfl, e9⟩
        subst M8
        refine Gb_if_ne (tgt := 36) dX9_row_31 (by decide) (fun h31 => ?_) (fun h31 => ?_)
        · obtain ⟨f, hf, rfl⟩ := hasF_nI (dec_iff.mp h8)
          obtain ⟨v, -, hv, rfl⟩ := inI_nI (dec_iff.mp h17) (by decide) (by decide)
          obtain ⟨r, hr, rfl⟩ := nI_of (show ¬ r0 < 0 by assumption)
          obtain ⟨w, -, hw, rfl⟩ := inI_nI (dec_iff.mp h31) (by decide) (by decide)
          have hb1 : (rwS (labF s.2.1) v f (s.2.1 0) (s.2.1 1)).1 ≤ 48 := (rw_48 hk).1
          have hb2 : (psS (rwS (labF s.2.1) v f (s.2.1 0) (s.2.1 1))).1 ≤ 48 := (rw_48 hk).2
          refine G_aload_n dX9_row_36 rfl rfl ?_
          refine G_getR (j := 17) dX9_row_37 fX9_40 rfl rfl ?_
          refine G_aload_n dX9_row_40 rfl rfl ?_
          refine G_getR (j := 1) dX9_row_41 fX9_12 rfl rfl ?_
          refine G_aload_n dX9_row_44 rfl rfl ?_
          refine G_getR (j := 8) dX9_row_45 fX9_33 rfl rfl ?_
          refine G_iload_n dX9_row_48 rfl rfl ?_
          refine G_iload_n dX9_row_49 rfl rfl ?_
          refine G_callVv (ν := uX5_lay) (As := [.inr 1, .inr 8, .inl (nI f), .inl (nI v)]) dX9_row_50 nX9_163 kX5_lay rfl rfl rfl rfl rfl (Nat.le_of_ble_eq_true rfl) (c_layG hg hk hM hf (by omega)) ?_
          rintro _ Ma ⟨hFa, hSa⟩
          have hga := hC_A hg hFa
          refine G_iload_n dX9_row_53 rfl rfl ?_
          refine G_aload_n dX9_row_54 rfl rfl ?_
          refine G_getR (j := 17) dX9_row_55 fX9_40 rfl rfl ?_
          refine G_callVi (ν := uX5_rowsLaid) (As := []) dX9_row_58 nX9_171 kX5_rowsLaid rfl rfl rfl rfl rfl (Nat.le_of_ble_eq_true rfl) (c_rowsLaid hSa hk.1.2 hk.2.1.2) ?_
          rintro _ M8 ⟨rfl, e9⟩
          subst M8
          refine Gn_icmp_lt (tgt := 67) dX9_row_61 (by decide) (by omega) (by omega) (fun h61 => ?_) (fun h61 => ?_)
          · rcases (show w = 0 ∨ w = 1 ∨ w = 2 ∨ w = 3 by omega) with rfl | rfl | rfl | rfl
            · skip
              refine G_iload dX9_row_67 rfl ?_
              refine G_swIn (tgt := 96) dX9_row_69 (by decide) (by decide) rfl (by decide) ?_
              refine G_aload_n dX9_row_96 rfl rfl ?_
              refine G_getR (j := 1) dX9_row_97 fX9_12 rfl rfl ?_
              refine G_aload_n dX9_row_100 rfl rfl ?_
              refine G_getR (j := 17) dX9_row_101 fX9_40 rfl rfl ?_
              refine G_iload_n dX9_row_104 rfl rfl ?_
              refine G_callVi (ν := uX5_rowStart) (As := [.inl (nI r)]) dX9_row_105 nX9_174 kX5_rowStart rfl rfl rfl rfl rfl (Nat.le_of_ble_eq_true rfl) (c_rowStart hSa hk.1.2 hk.2.1.2 h61) ?_
              rintro _ M8 ⟨rfl, e9⟩
              subst M8
              refine G_callVi (ν := uX0_numberOf) (As := [.inl (nI (plc v ((rwS (labF s.2.1) v f (s.2.1 0) (s.2.1 1)).2.1 r) ((rwS (labF s.2.1) v f (s.2.1 0) (s.2.1 1)).2.2.1 r)))]) dX9_row_108 nX9_151 kX0_numberOf rfl rfl rfl rfl rfl (Nat.le_of_ble_eq_true rfl) (c_numberOf (o := 1) (v := 2) rfl rfl (hga 0 (by decide)) ((rwS_grid hk.1.2 hk.2.1.2 h61).1) hk.1.2) ?_
              rintro _ M8 ⟨rfl, e9⟩
              subst M8
              refine G_iret dX9_row_111 rfl rfl ?_
              exact PXq hX (FRQ_A hFa) (qRow_is hf hv (by decide) h61 hb1)
            · skip
              refine G_iload dX9_row_67 rfl ?_
              refine G_swIn (tgt := 112) dX9_row_69 (by decide) (by decide) rfl (by decide) ?_
              refine G_aload_n dX9_row_112 rfl rfl ?_
              refine G_getR (j := 17) dX9_row_113 fX9_40 rfl rfl ?_
              refine G_iload_n dX9_row_116 rfl rfl ?_
              refine G_callVi (ν := uX5_rowLength) (As := [.inl (nI r)]) dX9_row_117 nX9_177 kX5_rowLength rfl rfl rfl rfl rfl (Nat.le_of_ble_eq_true rfl) (c_rowLength hSa hk.1.2 hk.2.1.2 h61) ?_
              rintro _ M8 ⟨rfl, e9⟩
              subst M8
              refine G_iret dX9_row_120 rfl rfl ?_
              exact PXq hX (FRQ_A hFa) (qRow_is hf hv (by decide) h61 hb1)
            · skip
              refine G_iload dX9_row_67 rfl ?_
              refine G_swIn (tgt := 121) dX9_row_69 (by decide) (by decide) rfl (by decide) ?_
              refine G_aload_n dX9_row_121 rfl rfl ?_
              refine G_getR (j := 17) dX9_row_122 fX9_40 rfl rfl ?_
              refine G_iload_n dX9_row_125 rfl rfl ?_
              refine G_callVi (ν := uX5_rowStitches) (As := [.inl (nI r)]) dX9_row_126 nX9_180 kX5_rowStitches rfl rfl rfl rfl rfl (Nat.le_of_ble_eq_true rfl) (c_rowStitches hSa hk.1.2 hk.2.1.2 h61 hk.2.2.1.1 hk.2.2.1.2) ?_
              rintro _ M8 ⟨rfl, e9⟩
              subst M8
              refine G_iret dX9_row_129 rfl rfl ?_
              exact PXq hX (FRQ_A hFa) (qRow_is hf hv (by decide) h61 hb1)
            · skip
              refine G_iload dX9_row_67 rfl ?_
              refine G_swOut (tgt := 130) dX9_row_69 (by decide) (by decide) ?_
              refine G_aload_n dX9_row_130 rfl rfl ?_
              refine G_getR (j := 17) dX9_row_131 fX9_40 rfl rfl ?_
              refine G_iload_n dX9_row_134 rfl rfl ?_
              refine G_callVi (ν := uX5_rowPart) (As := [.inl (nI r)]) dX9_row_135 nX9_183 kX5_rowPart rfl rfl rfl rfl rfl (Nat.le_of_ble_eq_true rfl) (c_rowPart hSa hk.1.2 hk.2.1.2 h61) ?_
              rintro _ M8 ⟨rfl, e9⟩
              subst M8
              refine G_iret dX9_row_138 rfl rfl ?_
              exact PXq hX (FRQ_A hFa) (qRow_is hf hv (by decide) h61 hb1)
          · refine G_bipush (v := ((-9))) dX9_row_64 (by decide) ?_
            refine G_iret dX9_row_66 rfl rfl ?_
            exact PXq hX (FRQ_A hFa) (qRow_no hf hv hw hr (fun q => absurd q (Nat.not_lt.mpr (by assumption))) hb1)
        · refine G_iconst (v := ((-1))) dX9_row_34 (by decide) ?_
          refine G_iret dX9_row_35 rfl rfl ?_
          exact PXq hX FRQ_r (by rw [qRow, cI_f (fun q => dec_niff.mp h31 q.2.2.2)])
theorem parV_3 {g : Nat → Nat} {v f p : Nat} (h : p + 1 < (psS (rwG g v f)).1) : parV g v f p 3 = nI (hid g v (rwG g v f) (psS (rwG g v f)) p) := if_pos h
theorem parV_3n {g : Nat → Nat} {v f p : Nat} (h : ¬ p + 1 < (psS (rwG g v f)).1) : parV g v f p 3 = -9 := if_neg h
theorem x_part {d : Nat} {s : AS} {M : Mem} {f0 v0 r0 w0 : Int32} (hX : XR s M) : Call l α D cA uX9_part (d + 5) [.inr 0, .inl f0, .inl v0, .inl r0, .inl w0] M (PX M (qPart s.2.1 f0 v0 r0 w0, s)) := by
  refine Call.of kX9_part.1 (Nat.le_of_ble_eq_true rfl) ?_
  obtain ⟨hg, hk, hM⟩ := rec_x hX
  refine G_aload_n dX9_part_0 rfl rfl ?_
  refine G_getR (j := 8) dX9_part_1 fX9_33 rfl rfl ?_
  refine G_iload_n dX9_part_4 rfl rfl ?_
  refine G_callVi (ν := uX1_has) (As := [.inl f0]) dX9_part_5 nX9_139 kX1_has rfl rfl rfl rfl rfl (Nat.le_of_ble_eq_true rfl) (c_hasF (g := s.2.1) hM) ?_
  rintro _ M8 ⟨rfl, e9⟩
  subst M8
  refine Gb_if_eq (tgt := 34) dX9_part_8 (by decide) (fun h8 => ?_) (fun h8 => ?_)
  · refine G_iconst (v := ((-1))) dX9_part_34 (by decide) ?_
    refine G_iret dX9_part_35 rfl rfl ?_
    exact PXq hX FRQ_r (by rw [qPart, cI_f (fun q => dec_niff.mp h8 q.1)])
  · refine G_iload_n dX9_part_11 rfl rfl ?_
    refine G_iconst (v := (nI 0)) dX9_part_12 (by decide) ?_
    refine G_iconst (v := (nI 1)) dX9_part_13 (by decide) ?_
    refine G_callSi (ν := uX9_within) (As := [.inl v0, .inl (nI 0), .inl (nI 1)]) dX9_part_14 nX9_74 kX9_within rfl rfl rfl (Nat.le_of_ble_eq_true rfl) (c_withinI (lo := 0) (hi := 1)) ?_
    rintro _ M8 ⟨rfl, e9⟩
    subst M8
    refine Gb_if_eq (tgt := 34) dX9_part_17 (by decide) (fun h17 => ?_) (fun h17 => ?_)
    · refine G_iconst (v := ((-1))) dX9_part_34 (by decide) ?_
      refine G_iret dX9_part_35 rfl rfl ?_
      exact PXq hX FRQ_r (by rw [qPart, cI_f (fun q => dec_niff.mp h17 q.2.1)])
    · refine G_iload_n dX9_part_20 rfl rfl ?_
      refine G_if_lt (tgt := 34) dX9_part_21 (by decide) (fun h21 => ?_) (fun h21 => ?_)
      · refine G_iconst (v := ((-1))) dX9_part_34 (by decide) ?_
        refine G_iret dX9_part_35 rfl rfl ?_
        exact PXq hX FRQ_r (by rw [qPart, cI_f (fun q => (by have := q.2.2.1; grind))])
      · refine G_iload dX9_part_24 rfl ?_
        refine G_iconst (v := (nI 0)) dX9_part_26 (by decide) ?_
        refine G_iconst (v := (nI 3)) dX9_part_27 (by decide) ?_
        refine G_callSi (ν := uX9_within) (As := [.inl w0, .inl (nI 0), .inl (nI 3)]) dX9_part_28 nX9_74 kX9_within rfl rfl rfl (Nat.le_of_ble_eq_true rfl) (c_withinI (lo := 0) (hi := 3)) ?_
        rintro _ M8 ⟨rfl, e9⟩
        subst M8
        refine Gb_if_ne (tgt := 36) dX9_part_31 (by decide) (fun h31 => ?_) (fun h31 => ?_)
        · obtain ⟨f, hf, rfl⟩ := hasF_nI (dec_iff.mp h8)
          obtain ⟨v, -, hv, rfl⟩ := inI_nI (dec_iff.mp h17) (by decide) (by decide)
          obtain ⟨r, hr, rfl⟩ := nI_of (show ¬ r0 < 0 by assumption)
          obtain ⟨w, -, hw, rfl⟩ := inI_nI (dec_iff.mp h31) (by decide) (by decide)
          have hb1 : (rwS (labF s.2.1) v f (s.2.1 0) (s.2.1 1)).1 ≤ 48 := (rw_48 hk).1
          have hb2 : (psS (rwS (labF s.2.1) v f (s.2.1 0) (s.2.1 1))).1 ≤ 48 := (rw_48 hk).2
          refine G_aload_n dX9_part_36 rfl rfl ?_
          refine G_getR (j := 17) dX9_part_37 fX9_40 rfl rfl ?_
          refine G_aload_n dX9_part_40 rfl rfl ?_
          refine G_getR (j := 1) dX9_part_41 fX9_12 rfl rfl ?_
          refine G_aload_n dX9_part_44 rfl rfl ?_
          refine G_getR (j := 8) dX9_part_45 fX9_33 rfl rfl ?_
          refine G_iload_n dX9_part_48 rfl rfl ?_
          refine G_iload_n dX9_part_49 rfl rfl ?_
          refine G_callVv (ν := uX5_lay) (As := [.inr 1, .inr 8, .inl (nI f), .inl (nI v)]) dX9_part_50 nX9_163 kX5_lay rfl rfl rfl rfl rfl (Nat.le_of_ble_eq_true rfl) (c_layG hg hk hM hf (by omega)) ?_
          rintro _ Ma ⟨hFa, hSa⟩
          have hga := hC_A hg hFa
          refine G_iload_n dX9_part_53 rfl rfl ?_
          refine G_aload_n dX9_part_54 rfl rfl ?_
          refine G_getR (j := 17) dX9_part_55 fX9_40 rfl rfl ?_
          refine G_callVi (ν := uX5_partsLaid) (As := []) dX9_part_58 nX9_186 kX5_partsLaid rfl rfl rfl rfl rfl (Nat.le_of_ble_eq_true rfl) (c_partsLaid hSa hk.1.2 hk.2.1.2) ?_
          rintro _ M8 ⟨rfl, e9⟩
          subst M8
          refine Gn_icmp_lt (tgt := 67) dX9_part_61 (by decide) (by omega) (by omega) (fun h61 => ?_) (fun h61 => ?_)
          · rcases (show w = 0 ∨ w = 1 ∨ w = 2 ∨ (w = 3 ∧ r + 1 < (psS (rwS (labF s.2.1) v f (s.2.1 0) (s.2.1 1))).1) ∨ (w = 3 ∧ ¬ r + 1 < (psS (rwS (labF s.2.1) v f (s.2.1 0) (s.2.1 1))).1) by omega) with rfl | rfl | rfl | ⟨rfl, hp⟩ | ⟨rfl, hp⟩
            · skip
              refine G_iload dX9_part_67 rfl ?_
              refine G_swIn (tgt := 96) dX9_part_69 (by decide) (by decide) rfl (by decide) ?_
              refine G_aload_n dX9_part_96 rfl rfl ?_
              refine G_getR (j := 17) dX9_part_97 fX9_40 rfl rfl ?_
              refine G_iload_n dX9_part_100 rfl rfl ?_
              refine G_callVi (ν := uX5_partRows) (As := [.inl (nI r)]) dX9_part_101 nX9_189 kX5_partRows rfl rfl rfl rfl rfl (Nat.le_of_ble_eq_true rfl) (c_partRows hSa hk.1.2 hk.2.1.2 h61) ?_
              rintro _ M8 ⟨rfl, e9⟩
              subst M8
              refine G_iret dX9_part_104 rfl rfl ?_
              exact PXq hX (FRQ_A hFa) (qPart_is hf hv (by decide) h61 hb2)
            · skip
              refine G_iload dX9_part_67 rfl ?_
              refine G_swIn (tgt := 105) dX9_part_69 (by decide) (by decide) rfl (by decide) ?_
              refine G_aload_n dX9_part_105 rfl rfl ?_
              refine G_getR (j := 1) dX9_part_106 fX9_12 rfl rfl ?_
              refine G_aload_n dX9_part_109 rfl rfl ?_
              refine G_getR (j := 17) dX9_part_110 fX9_40 rfl rfl ?_
              refine G_iload_n dX9_part_113 rfl rfl ?_
              refine G_callVi (ν := uX5_partStart) (As := [.inl (nI r)]) dX9_part_114 nX9_192 kX5_partStart rfl rfl rfl rfl rfl (Nat.le_of_ble_eq_true rfl) (c_partStart hSa hk.1.2 hk.2.1.2 h61) ?_
              rintro _ M8 ⟨rfl, e9⟩
              subst M8
              refine G_callVi (ν := uX0_numberOf) (As := [.inl (nI (pBeg v (rwS (labF s.2.1) v f (s.2.1 0) (s.2.1 1)) (psS (rwS (labF s.2.1) v f (s.2.1 0) (s.2.1 1))) r))]) dX9_part_117 nX9_151 kX0_numberOf rfl rfl rfl rfl rfl (Nat.le_of_ble_eq_true rfl) (c_numberOf (o := 1) (v := 2) rfl rfl (hga 0 (by decide)) ((pBeg_in hk.1.2 hk.2.1.2 h61).2) hk.1.2) ?_
              rintro _ M8 ⟨rfl, e9⟩
              subst M8
              refine G_iret dX9_part_120 rfl rfl ?_
              exact PXq hX (FRQ_A hFa) (qPart_is hf hv (by decide) h61 hb2)
            · skip
              refine G_iload dX9_part_67 rfl ?_
              refine G_swIn (tgt := 121) dX9_part_69 (by decide) (by decide) rfl (by decide) ?_
              refine G_aload_n dX9_part_121 rfl rfl ?_
              refine G_getR (j := 1) dX9_part_122 fX9_12 rfl rfl ?_
              refine G_aload_n dX9_part_125 rfl rfl ?_
              refine G_getR (j := 17) dX9_part_126 fX9_40 rfl rfl ?_
              refine G_iload_n dX9_part_129 rfl rfl ?_
              refine G_callVi (ν := uX5_partEnd) (As := [.inl (nI r)]) dX9_part_130 nX9_195 kX5_partEnd rfl rfl rfl rfl rfl (Nat.le_of_ble_eq_true rfl) (c_partEnd hSa hk.1.2 hk.2.1.2 h61) ?_
              rintro _ M8 ⟨rfl, e9⟩
              subst M8
              refine G_callVi (ν := uX0_numberOf) (As := [.inl (nI (pEnd v (rwS (labF s.2.1) v f (s.2.1 0) (s.2.1 1)) (psS (rwS (labF s.2.1) v f (s.2.1 0) (s.2.1 1))) r))]) dX9_part_133 nX9_151 kX0_numberOf rfl rfl rfl rfl rfl (Nat.le_of_ble_eq_true rfl) (c_numberOf (o := 1) (v := 2) rfl rfl (hga 0 (by decide)) ((pEnd_in hk.1.2 hk.2.1.2 h61).2) hk.1.2) ?_
              rintro _ M8 ⟨rfl, e9⟩
              subst M8
              refine G_iret dX9_part_136 rfl rfl ?_
              exact PXq hX (FRQ_A hFa) (qPart_is hf hv (by decide) h61 hb2)
            · skip
              refine G_iload dX9_part_67 rfl ?_
              refine G_swOut (tgt := 137) dX9_part_69 (by decide) (by decide) ?_
              refine G_aload_n dX9_part_137 rfl rfl ?_
              refine G_getR (j := 17) dX9_part_138 fX9_40 rfl rfl ?_
              refine G_aload_n dX9_part_141 rfl rfl ?_
              refine G_getR (j := 1) dX9_part_142 fX9_12 rfl rfl ?_
              refine G_iload_n dX9_part_145 rfl rfl ?_
              refine G_callVi (ν := uX5_hiddenWay) (As := [.inr 1, .inl (nI r)]) dX9_part_146 nX9_198 kX5_hiddenWay rfl rfl rfl rfl rfl (Nat.le_of_ble_eq_true rfl) (c_hidden hSa hk.1.2 hk.2.1.2 hga (gok_9 hk) hp) ?_
              rintro _ M8 ⟨rfl, e9⟩
              refine G_iret dX9_part_149 rfl rfl ?_
              exact PXq hX (FRQ_A (FRA_t hFa (FRA_s e9))) ((qPart_is hf hv (by decide) h61 hb2).trans (parV_3 hp))
            · skip
              refine G_iload dX9_part_67 rfl ?_
              refine G_swOut (tgt := 137) dX9_part_69 (by decide) (by decide) ?_
              refine G_aload_n dX9_part_137 rfl rfl ?_
              refine G_getR (j := 17) dX9_part_138 fX9_40 rfl rfl ?_
              refine G_aload_n dX9_part_141 rfl rfl ?_
              refine G_getR (j := 1) dX9_part_142 fX9_12 rfl rfl ?_
              refine G_iload_n dX9_part_145 rfl rfl ?_
              refine G_callVi (ν := uX5_hiddenWay) (As := [.inr 1, .inl (nI r)]) dX9_part_146 nX9_198 kX5_hiddenWay rfl rfl rfl rfl rfl (Nat.le_of_ble_eq_true rfl) (c_hiddenNo hSa hk.1.2 hk.2.1.2 hga (gok_9 hk) hp (by omega)) ?_
              rintro _ M8 ⟨rfl, e9⟩
              subst M8
              refine G_iret dX9_part_149 rfl rfl ?_
              exact PXq hX (FRQ_A hFa) ((qPart_is hf hv (by decide) h61 hb2).trans (parV_3n hp))
          · refine G_bipush (v := ((-9))) dX9_part_64 (by decide) ?_
            refine G_iret dX9_part_66 rfl rfl ?_
            exact PXq hX (FRQ_A hFa) (qPart_no hf hv hw hr (fun q => absurd q (Nat.not_lt.mpr (by assumption))) hb2)
        · refine G_iconst (v := ((-1))) dX9_part_34 (by decide) ?_
          refine G_iret dX9_part_35 rfl rfl ?_
          exact PXq hX FRQ_r (by rw [qPart, cI_f (fun q => dec_niff.mp h31 q.2.2.2)])
theorem FRQ_O {M M1 : Mem} (h : FRO M M1) : ∀ q, (q < 31 ∨ 33 < q) → M1 q = M q := h
theorem FRQ_O2 {M M1 : Mem} (h : FRO M M1) : FRQ M M1 := fun q hq => h q (by omega)
theorem ord_10 {g : Nat → Nat} (i : Nat) (h : labN g ≤ 10) : (ordS g i).1 ≤ 10 := by
  rw [ord_inv]
  exact Nat.le_trans (fb_ct_le _ _) h
theorem ord_1 {g : Nat → Nat} (hk : gok g) (h : 0 < labN g) : 1 ≤ (ordS g 3).2.2.2 := by
  sorry
theorem x_order {d : Nat} {s : AS} {M : Mem} {k0 : Int32} (hX : XR s M) : Call l α D cA uX9_order (d + 6) [.inr 0, .inl k0] M (PX M (qOrder s.2.1 k0, s)) := by
  refine Call.of kX9_order.1 (Nat.le_of_ble_eq_true rfl) ?_
  obtain ⟨hg, hk, hM⟩ := rec_x hX
  have hL := labN_48 (g := s.2.1)
  refine G_iload_n dX9_order_0 rfl rfl ?_
  refine G_iconst (v := ((-1))) dX9_order_1 (by decide) ?_
  refine G_icmp_ge (tgt := 7) dX9_order_2 (by decide) (fun h2 => ?_) (fun h2 => ?_)
  · refine G_aload_n dX9_order_7 rfl rfl ?_
    refine G_getR (j := 8) dX9_order_8 fX9_33 rfl rfl ?_
    refine G_callVi (ν := uX1_size) (As := []) dX9_order_11 nX9_201 kX1_size rfl rfl rfl rfl rfl (Nat.le_of_ble_eq_true rfl) (c_msize hM.2.1) ?_
    rintro _ M8 ⟨rfl, e9⟩
    subst M8
    refine G_bipush (v := (nI 10)) dX9_order_14 (by decide) ?_
    refine Gn_icmp_le (tgt := 22) dX9_order_16 (by decide) (by omega) (by omega) (fun h16 => ?_) (fun h16 => ?_)
    · refine G_aload_n dX9_order_22 rfl rfl ?_
      refine G_getR (j := 8) dX9_order_23 fX9_33 rfl rfl ?_
      refine G_callVi (ν := uX1_size) (As := []) dX9_order_26 nX9_201 kX1_size rfl rfl rfl rfl rfl (Nat.le_of_ble_eq_true rfl) (c_msize hM.2.1) ?_
      rintro _ M8 ⟨rfl, e9⟩
      subst M8
      refine Gn_if_ne (tgt := 35) dX9_order_29 (by decide) (by omega) (fun h29 => ?_) (fun h29 => ?_)
      · refine G_aload_n dX9_order_35 rfl rfl ?_
        refine G_getR (j := 31) dX9_order_36 fX9_47 rfl rfl ?_
        refine G_aload_n dX9_order_39 rfl rfl ?_
        refine G_getR (j := 1) dX9_order_40 fX9_12 rfl rfl ?_
        refine G_aload_n dX9_order_43 rfl rfl ?_
        refine G_getR (j := 8) dX9_order_44 fX9_33 rfl rfl ?_
        refine G_callVv (ν := uX6_lay) (As := [.inr 1, .inr 8]) dX9_order_47 nX9_202 kX6_lay rfl rfl rfl rfl rfl (Nat.le_of_ble_eq_true rfl) (c_olay hg hk hM (by omega)) ?_
        rintro _ Ma ⟨hFa, hOa⟩
        refine G_iload_n dX9_order_50 rfl rfl ?_
        refine G_iconst (v := ((-1))) dX9_order_51 (by decide) ?_
        refine G_icmp_ne (tgt := 65) dX9_order_52 (by decide) (fun h52 => ?_) (fun h52 => ?_)
        · obtain ⟨k, hkk, rfl⟩ := nI_of (show ¬ k0 < 0 by grind)
          refine G_aload_n dX9_order_65 rfl rfl ?_
          refine G_getR (j := 31) dX9_order_66 fX9_47 rfl rfl ?_
          refine G_iload_n dX9_order_69 rfl rfl ?_
          refine G_callVi (ν := uX6_fieldAt) (As := [.inl (nI k)]) dX9_order_70 nX9_208 kX6_fieldAt rfl rfl rfl rfl rfl (Nat.le_of_ble_eq_true rfl) (c_ofield hOa (ord_10 3 (by omega)) hkk) ?_
          rintro _ M8 ⟨rfl, e9⟩
          subst M8
          refine G_iret dX9_order_73 rfl rfl ?_
          exact PXq hX (FRQ_O2 hFa) (by rw [qOrder, cI_f (by grind), cI_f (by omega), cI_f (by omega), cI_f (by grind), nN hkk])
        · refine G_aload_n dX9_order_55 rfl rfl ?_
          refine G_getR (j := 31) dX9_order_56 fX9_47 rfl rfl ?_
          refine G_callVi (ν := uX6_changes) (As := []) dX9_order_59 nX9_205 kX6_changes rfl rfl rfl rfl rfl (Nat.le_of_ble_eq_true rfl) (c_ochanges hOa (ord_1 hk (by omega))) ?_
          rintro _ M8 ⟨rfl, e9⟩
          subst M8
          refine G_goto (tgt := 73) dX9_order_62 (by decide) ?_
          refine G_iret dX9_order_73 rfl rfl ?_
          exact PXq hX (FRQ_O2 hFa) (by rw [qOrder, cI_f (by grind), cI_f (by omega), cI_f (by omega), cI_t (by grind)])
      · refine G_bipush (v := ((-9))) dX9_order_32 (by decide) ?_
        refine G_iret dX9_order_34 rfl rfl ?_
        exact PXq hX FRQ_r (by rw [qOrder, cI_f (by grind), cI_f (by omega), cI_t (by omega)])
    · refine G_bipush (v := ((-3))) dX9_order_19 (by decide) ?_
      refine G_iret dX9_order_21 rfl rfl ?_
      exact PXq hX FRQ_r (by rw [qOrder, cI_f (by grind), cI_t (by omega)])
  · refine G_iconst (v := ((-1))) dX9_order_5 (by decide) ?_
    refine G_iret dX9_order_6 rfl rfl ?_
    exact PXq hX FRQ_r (by rw [qOrder, cI_t (by grind)])
end P25
