/-! Sewing (17; wave 18, 19, 20; lines 21, firsts 22, lasts 23, starts 24, ends 25, parts 26, startRows 27, endRows 28, sizes 29, covered 30): rows and parts -/
section P17
variable {l : Launch} {α : Nat → Nat} {D : va_G} {cA : Nat → ClassId}
def plc (w i p : Nat) : Nat := if w = 0 then 8 * i + p else 8 * p + i
/-- line i, position p lie on the grid -/
def inG (w i p : Nat) : Prop := if w = 0 then i < 6 ∧ p < 8 else i < 8 ∧ p < 6
theorem inG_lt {w i p : Nat} (h : inG w i p) : plc w i p < 48 := by
  unfold inG at h
  unfold plc
  split at h
  · rename_i z; rw [if_pos z]; omega
  · rename_i z; rw [if_neg z]; omega
/-- what the rows' cells hold -/
def RWx (w : Nat) (s : RS) (M : Mem) : Prop := M 17 13 = nI s.1 ∧ ∀ r, r < s.1 → M 21 r = nI (s.2.1 r) ∧ M 22 r = nI (s.2.2.1 r) ∧ M 23 r = nI (s.2.2.2 r) ∧ M 24 r = nI (plc w (s.2.1 r) (s.2.2.1 r)) ∧ M 25 r = nI (plc w (s.2.1 r) (s.2.2.2 r))
def RB (s : RS) : Prop := s.1 ≤ 48 ∧ ∀ r, r < s.1 → s.2.1 r < 48 ∧ s.2.2.1 r < 48 ∧ s.2.2.2 r < 48
def FRS (M M1 : Mem) : Prop := ∀ q, q ≠ 17 → (q < 21 ∨ 29 < q) → M1 q = M q
theorem FRS_t {M M1 M2 : Mem} (h : FRS M M1) (h2 : FRS M1 M2) : FRS M M2 := fun q a b => (h2 q a b).trans (h q a b)
theorem c_placeIn {d w i p : Nat} {M : Mem} (hw : M 17 11 = nI w) (w2 : w < 2) (hg : inG w i p) : Call l α D cA uX5_placeIn (d + 2) [.inr 17, .inl (nI i), .inl (nI p)] M (fun r M1 => r = .inl (nI (plc w i p)) ∧ M1 = M) := by
  refine Call.of kX5_placeIn.1 (Nat.le_of_ble_eq_true rfl) ?_
  refine G_aload_n dX5_placeIn_0 rfl rfl ?_
  refine G_getI (v := (nI w)) dX5_placeIn_1 fX5_50 rfl rfl hw ?_
  refine Gn_if_ne (tgt := 15) dX5_placeIn_4 (by decide) (by omega) (fun h4 => ?_) (fun h4 => ?_)
  · refine G_iload_n dX5_placeIn_15 rfl rfl ?_
    refine G_iload_n dX5_placeIn_16 rfl rfl ?_
    refine G_callSi (ν := uX9_placeOf) (As := [.inl (nI i), .inl (nI p)]) dX5_placeIn_17 nX5_143 kX9_placeOf rfl rfl rfl (Nat.le_of_ble_eq_true rfl) (c_placeOf (x := i) (y := p) (by have hh := hg; rw [inG, if_neg h4] at hh; omega) (by have hh := hg; rw [inG, if_neg h4] at hh; omega)) ?_
    rintro _ M8 ⟨rfl, e9⟩
    subst M8
    refine G_iret dX5_placeIn_20 rfl rfl ?_
    exact ⟨by rw [plc, if_neg h4], rfl⟩
  · refine G_iload_n dX5_placeIn_7 rfl rfl ?_
    refine G_iload_n dX5_placeIn_8 rfl rfl ?_
    refine G_callSi (ν := uX9_placeOf) (As := [.inl (nI p), .inl (nI i)]) dX5_placeIn_9 nX5_143 kX9_placeOf rfl rfl rfl (Nat.le_of_ble_eq_true rfl) (c_placeOf (x := p) (y := i) (by have hh := hg; rw [inG, if_pos h4] at hh; omega) (by have hh := hg; rw [inG, if_pos h4] at hh; omega)) ?_
    rintro _ M8 ⟨rfl, e9⟩
    subst M8
    refine G_goto (tgt := 20) dX5_placeIn_12 (by decide) ?_
    refine G_iret dX5_placeIn_20 rfl rfl ?_
    exact ⟨by rw [plc, if_pos h4], rfl⟩
theorem c_lineLength {d w W H : Nat} {M : Mem} (hw : M 17 11 = nI w) (w2 : w < 2) (hW : M 2 0 = nI W) (hH : M 2 1 = nI H) : Call l α D cA uX5_lineLength (d + 1) [.inr 17, .inr 1] M (fun r M1 => r = .inl (nI (if w = 0 then W else H)) ∧ M1 = M) := by
  refine Call.of kX5_lineLength.1 (Nat.le_of_ble_eq_true rfl) ?_
  refine G_aload_n dX5_lineLength_0 rfl rfl ?_
  refine G_getI (v := (nI w)) dX5_lineLength_1 fX5_50 rfl rfl hw ?_
  refine Gn_if_ne (tgt := 14) dX5_lineLength_4 (by decide) (by omega) (fun h4 => ?_) (fun h4 => ?_)
  · refine G_aload_n dX5_lineLength_14 rfl rfl ?_
    refine G_callVi (ν := uX0_height) (As := []) dX5_lineLength_15 nX5_149 kX0_height rfl rfl rfl rfl rfl (Nat.le_of_ble_eq_true rfl) (c_height (o := 1) (v := 2) rfl rfl hH) ?_
    rintro _ M8 ⟨rfl, e9⟩
    subst M8
    refine G_iret dX5_lineLength_18 rfl rfl ?_
    exact ⟨by rw [if_neg h4], rfl⟩
  · refine G_aload_n dX5_lineLength_7 rfl rfl ?_
    refine G_callVi (ν := uX0_width) (As := []) dX5_lineLength_8 nX5_146 kX0_width rfl rfl rfl rfl rfl (Nat.le_of_ble_eq_true rfl) (c_width (o := 1) (v := 2) rfl rfl hW) ?_
    rintro _ M8 ⟨rfl, e9⟩
    subst M8
    refine G_goto (tgt := 18) dX5_lineLength_11 (by decide) ?_
    refine G_iret dX5_lineLength_18 rfl rfl ?_
    exact ⟨by rw [if_pos h4], rfl⟩
theorem c_isNextTo {d w r b : Nat} {s : RS} {M : Mem} (hR : RWx w s M) (hB : RB s) (hr : r < s.1) (hb : b < s.1) : Call l α D cA uX5_isNextTo (d + 1) [.inr 17, .inl (nI r), .inl (nI b)] M (fun q M1 => q = .inl (bI (dec (NX s r b))) ∧ M1 = M) := by
  refine Call.of kX5_isNextTo.1 (Nat.le_of_ble_eq_true rfl) ?_
  have k0 := hB.1
  have k1 := hB.2 r hr
  have k2 := hB.2 b hb
  refine G_aload_n dX5_isNextTo_0 rfl rfl ?_
  refine G_getR (j := 21) dX5_isNextTo_1 fX5_18 rfl rfl ?_
  refine G_iload_n dX5_isNextTo_4 rfl rfl ?_
  refine G_callSi (ν := uX9_at) (As := [.inr 21, .inl (nI r)]) dX5_isNextTo_5 nX5_72 kX9_at rfl rfl rfl (Nat.le_of_ble_eq_true rfl) (c_at (o := 21) (n := 48) (i := r) rfl (by decide) (by omega)) ?_
  rintro _ M8 ⟨rfl, e9⟩
  subst M8
  rw [(hR.2 r hr).1]
  refine G_aload_n dX5_isNextTo_8 rfl rfl ?_
  refine G_getR (j := 21) dX5_isNextTo_9 fX5_18 rfl rfl ?_
  refine G_iload_n dX5_isNextTo_12 rfl rfl ?_
  refine G_callSi (ν := uX9_at) (As := [.inr 21, .inl (nI b)]) dX5_isNextTo_13 nX5_72 kX9_at rfl rfl rfl (Nat.le_of_ble_eq_true rfl) (c_at (o := 21) (n := 48) (i := b) rfl (by decide) (by omega)) ?_
  rintro _ M8 ⟨rfl, e9⟩
  subst M8
  rw [(hR.2 b hb).1]
  refine G_iconst (v := (nI 1)) dX5_isNextTo_16 (by decide) ?_
  refine G_iadd (v := (nI ((s.2.1 b) + 1))) dX5_isNextTo_17 (nI_add _ _) ?_
  refine Gn_icmp_ne (tgt := 63) dX5_isNextTo_18 (by decide) (by omega) (by omega) (fun h18 => ?_) (fun h18 => ?_)
  · refine G_iconst (v := (nI 0)) dX5_isNextTo_63 (by decide) ?_
    refine G_iret dX5_isNextTo_64 rfl (by decide) ?_
    exact ⟨congrArg Sum.inl (bI_df (fun z => h18 z.1)), rfl⟩
  · refine G_aload_n dX5_isNextTo_21 rfl rfl ?_
    refine G_getR (j := 22) dX5_isNextTo_22 fX5_22 rfl rfl ?_
    refine G_iload_n dX5_isNextTo_25 rfl rfl ?_
    refine G_callSi (ν := uX9_at) (As := [.inr 22, .inl (nI r)]) dX5_isNextTo_26 nX5_72 kX9_at rfl rfl rfl (Nat.le_of_ble_eq_true rfl) (c_at (o := 22) (n := 48) (i := r) rfl (by decide) (by omega)) ?_
    rintro _ M8 ⟨rfl, e9⟩
    subst M8
    rw [(hR.2 r hr).2.1]
    refine G_aload_n dX5_isNextTo_29 rfl rfl ?_
    refine G_getR (j := 23) dX5_isNextTo_30 fX5_25 rfl rfl ?_
    refine G_iload_n dX5_isNextTo_33 rfl rfl ?_
    refine G_callSi (ν := uX9_at) (As := [.inr 23, .inl (nI b)]) dX5_isNextTo_34 nX5_72 kX9_at rfl rfl rfl (Nat.le_of_ble_eq_true rfl) (c_at (o := 23) (n := 48) (i := b) rfl (by decide) (by omega)) ?_
    rintro _ M8 ⟨rfl, e9⟩
    subst M8
    rw [(hR.2 b hb).2.2.1]
    refine Gn_icmp_gt (tgt := 63) dX5_isNextTo_37 (by decide) (by omega) (by omega) (fun h37 => ?_) (fun h37 => ?_)
    · refine G_iconst (v := (nI 0)) dX5_isNextTo_63 (by decide) ?_
      refine G_iret dX5_isNextTo_64 rfl (by decide) ?_
      exact ⟨congrArg Sum.inl (bI_df (fun z => by have := z.2.1; omega)), rfl⟩
    · refine G_aload_n dX5_isNextTo_40 rfl rfl ?_
      refine G_getR (j := 23) dX5_isNextTo_41 fX5_25 rfl rfl ?_
      refine G_iload_n dX5_isNextTo_44 rfl rfl ?_
      refine G_callSi (ν := uX9_at) (As := [.inr 23, .inl (nI r)]) dX5_isNextTo_45 nX5_72 kX9_at rfl rfl rfl (Nat.le_of_ble_eq_true rfl) (c_at (o := 23) (n := 48) (i := r) rfl (by decide) (by omega)) ?_
      rintro _ M8 ⟨rfl, e9⟩
      subst M8
      rw [(hR.2 r hr).2.2.1]
      refine G_aload_n dX5_isNextTo_48 rfl rfl ?_
      refine G_getR (j := 22) dX5_isNextTo_49 fX5_22 rfl rfl ?_
      refine G_iload_n dX5_isNextTo_52 rfl rfl ?_
      refine G_callSi (ν := uX9_at) (As := [.inr 22, .inl (nI b)]) dX5_isNextTo_53 nX5_72 kX9_at rfl rfl rfl (Nat.le_of_ble_eq_true rfl) (c_at (o := 22) (n := 48) (i := b) rfl (by decide) (by omega)) ?_
      rintro _ M8 ⟨rfl, e9⟩
      subst M8
      rw [(hR.2 b hb).2.1]
      refine Gn_icmp_lt (tgt := 63) dX5_isNextTo_56 (by decide) (by omega) (by omega) (fun h56 => ?_) (fun h56 => ?_)
      · refine G_iconst (v := (nI 0)) dX5_isNextTo_63 (by decide) ?_
        refine G_iret dX5_isNextTo_64 rfl (by decide) ?_
        exact ⟨congrArg Sum.inl (bI_df (fun z => by have := z.2.2; omega)), rfl⟩
      · refine G_iconst (v := (nI 1)) dX5_isNextTo_59 (by decide) ?_
        refine G_goto (tgt := 64) dX5_isNextTo_60 (by decide) ?_
        refine G_iret dX5_isNextTo_64 rfl (by decide) ?_
        exact ⟨congrArg Sum.inl (bI_dt ⟨h18, h37, h56⟩), rfl⟩
theorem l_cont2 {d w r b : Nat} {s : RS} {M : Mem} (hR : RWx w s M) (hB : RB s) (hO : ∀ r r', r ≤ r' → r' < s.1 → s.2.1 r ≤ s.2.1 r') (hr : r < s.1) (hbr : b < r) (hN : NX s r b) (hU : ∀ b', b' < r → NX s r b' → b' = b) : ∀ k j : Nat, s.1 - j = k → b < j → j ≤ s.1 → (∀ r', r' < j → NX s r' b → r' = r) → G l α D cA uX5_rowContinuedBy none (d + 2) (fun q M1 => q = .inl (oI (prd s r)) ∧ M1 = M) 40 [some (.inr 17), some (.inl (nI r)), some (.inl (nI b)), some (.inl (nI j))] [] M := by
  intro k
  induction k using Nat.strongRecOn with
  | _ k ih => ?_
  intro j hk hbj hj hno
  have k0 := hB.1
  refine G_iload_n dX5_rowContinuedBy_40 rfl rfl ?_
  refine G_bipush (v := ((-9))) dX5_rowContinuedBy_41 (by decide) ?_
  refine G_icmp_eq (tgt := 77) dX5_rowContinuedBy_43 (by decide) (fun h43 => ?_) (fun h43 => ?_)
  · exact absurd h43 (fun z => absurd (z ▸ nI_pos (show b < 2 ^ 31 by omega)) (by decide))
  · refine G_iload_n dX5_rowContinuedBy_46 rfl rfl ?_
    refine G_aload_n dX5_rowContinuedBy_47 rfl rfl ?_
    refine G_getI (v := (nI (s.1))) dX5_rowContinuedBy_48 fX5_69 rfl rfl hR.1 ?_
    refine Gn_icmp_ge (tgt := 77) dX5_rowContinuedBy_51 (by decide) (by omega) (by omega) (fun h51 => ?_) (fun h51 => ?_)
    · refine G_iload_n dX5_rowContinuedBy_77 rfl rfl ?_
      refine G_iret dX5_rowContinuedBy_78 rfl rfl ?_
      exact ⟨by rw [prd_is (by omega) ⟨hN, fun x hx hc => hU x (NX_lt hO hx hc) hc, fun x hx hc => hno x (by omega) hc⟩]; rfl, rfl⟩
    · refine G_iload_n dX5_rowContinuedBy_54 rfl rfl ?_
      refine G_iload_n dX5_rowContinuedBy_55 rfl rfl ?_
      refine Gn_icmp_eq (tgt := 71) dX5_rowContinuedBy_56 (by decide) (by omega) (by omega) (fun h56 => ?_) (fun h56 => ?_)
      · refine G_iinc (v := (nI (j + 1))) (L2 := [some (.inr 17), some (.inl (nI r)), some (.inl (nI b)), some (.inl (nI (j + 1)))]) dX5_rowContinuedBy_71 rfl (nI_1 _) rfl ?_
        refine G_goto (tgt := 40) dX5_rowContinuedBy_74 (by decide) ?_
        exact ih (s.1 - (j + 1)) (by omega) (j + 1) rfl (by omega) (by omega) (fun r2 hr2 z => by
          rcases (show r2 < j ∨ r2 = j by omega) with y | y
          · exact hno r2 y z
          · subst y
            exact h56)
      · refine G_aload_n dX5_rowContinuedBy_59 rfl rfl ?_
        refine G_iload_n dX5_rowContinuedBy_60 rfl rfl ?_
        refine G_iload_n dX5_rowContinuedBy_61 rfl rfl ?_
        refine G_callVi (ν := uX5_isNextTo) (As := [.inl (nI j), .inl (nI b)]) dX5_rowContinuedBy_62 nX5_168 kX5_isNextTo rfl rfl rfl rfl rfl (Nat.le_of_ble_eq_true rfl) (c_isNextTo hR hB (by omega) (by omega)) ?_
        rintro _ M8 ⟨rfl, e9⟩
        subst M8
        refine Gb_if_eq (tgt := 71) dX5_rowContinuedBy_65 (by decide) (fun h65 => ?_) (fun h65 => ?_)
        · refine G_iinc (v := (nI (j + 1))) (L2 := [some (.inr 17), some (.inl (nI r)), some (.inl (nI b)), some (.inl (nI (j + 1)))]) dX5_rowContinuedBy_71 rfl (nI_1 _) rfl ?_
          refine G_goto (tgt := 40) dX5_rowContinuedBy_74 (by decide) ?_
          exact ih (s.1 - (j + 1)) (by omega) (j + 1) rfl (by omega) (by omega) (fun r2 hr2 z => by
            rcases (show r2 < j ∨ r2 = j by omega) with y | y
            · exact hno r2 y z
            · subst y
              exact absurd z (dec_niff.mp h65))
        · refine G_bipush (v := ((-9))) dX5_rowContinuedBy_68 (by decide) ?_
          refine G_iret dX5_rowContinuedBy_70 rfl rfl ?_
          exact ⟨by rw [prd_no (fun x hx hc => by
            have ex := hU x (NX_lt hO hx hc.1) hc.1
            subst ex
            exact h56 (hc.2.2 j (by omega) (dec_iff.mp h65)))]; rfl, rfl⟩
theorem l_cont1 {d w r : Nat} {s : RS} {M : Mem} (hR : RWx w s M) (hB : RB s) (hO : ∀ r r', r ≤ r' → r' < s.1 → s.2.1 r ≤ s.2.1 r') (hr : r < s.1) : ∀ (k j : Nat) (q : Option Nat), r - j = k → j ≤ r → (q = none → ∀ b, b < j → ¬ NX s r b) → (∀ b, q = some b → b < j ∧ NX s r b ∧ ∀ b', b' < j → NX s r b' → b' = b) → G l α D cA uX5_rowContinuedBy none (d + 2) (fun q M1 => q = .inl (oI (prd s r)) ∧ M1 = M) 5 [some (.inr 17), some (.inl (nI r)), some (.inl (oI q)), some (.inl (nI j))] [] M := by
  intro k
  induction k using Nat.strongRecOn with
  | _ k ih => ?_
  intro j q hk hj hq0 hq1
  have k0 := hB.1
  refine G_iload_n dX5_rowContinuedBy_5 rfl rfl ?_
  refine G_iload_n dX5_rowContinuedBy_6 rfl rfl ?_
  refine Gn_icmp_ge (tgt := 36) dX5_rowContinuedBy_7 (by decide) (by omega) (by omega) (fun h7 => ?_) (fun h7 => ?_)
  · rcases q with _ | b
    · have hq0 := hq0 rfl
      refine G_iload_n dX5_rowContinuedBy_36 rfl rfl ?_
      refine G_iconst (v := (nI 1)) dX5_rowContinuedBy_37 (by decide) ?_
      refine G_iadd (v := ((-8))) dX5_rowContinuedBy_38 (by decide) ?_
      refine G_istore_n (L2 := [some (.inr 17), some (.inl (nI r)), some (.inl (oI none)), some (.inl (-8))]) dX5_rowContinuedBy_39 rfl (Nat.le_of_ble_eq_true rfl) rfl ?_
      refine G_iload_n dX5_rowContinuedBy_40 rfl rfl ?_
      refine G_bipush (v := ((-9))) dX5_rowContinuedBy_41 (by decide) ?_
      refine G_icmp_eq (tgt := 77) dX5_rowContinuedBy_43 (by decide) (fun h43 => ?_) (fun h43 => ?_)
      · refine G_iload_n dX5_rowContinuedBy_77 rfl rfl ?_
        refine G_iret dX5_rowContinuedBy_78 rfl rfl ?_
        exact ⟨by rw [prd_no (fun x hx hc => hq0 x (by have := NX_lt hO hx hc.1; omega) hc.1)], rfl⟩
      · exact absurd rfl h43
    · obtain ⟨hq2, hq3, hq4⟩ := hq1 b rfl
      rw [show oI (some b) = nI b from rfl]
      refine G_iload_n dX5_rowContinuedBy_36 rfl rfl ?_
      refine G_iconst (v := (nI 1)) dX5_rowContinuedBy_37 (by decide) ?_
      refine G_iadd (v := (nI (b + 1))) dX5_rowContinuedBy_38 (nI_add _ _) ?_
      refine G_istore_n (L2 := [some (.inr 17), some (.inl (nI r)), some (.inl (nI b)), some (.inl (nI (b + 1)))]) dX5_rowContinuedBy_39 rfl (Nat.le_of_ble_eq_true rfl) rfl ?_
      exact l_cont2 hR hB hO hr (by omega) hq3 (fun x hx z => hq4 x (by omega) z) _ (b + 1) rfl (by omega) (by omega) (fun x hx z => absurd (NX_lt hO (by omega) z) (by omega))
  · refine G_aload_n dX5_rowContinuedBy_10 rfl rfl ?_
    refine G_iload_n dX5_rowContinuedBy_11 rfl rfl ?_
    refine G_iload_n dX5_rowContinuedBy_12 rfl rfl ?_
    refine G_callVi (ν := uX5_isNextTo) (As := [.inl (nI r), .inl (nI j)]) dX5_rowContinuedBy_13 nX5_168 kX5_isNextTo rfl rfl rfl rfl rfl (Nat.le_of_ble_eq_true rfl) (c_isNextTo hR hB (by omega) (by omega)) ?_
    rintro _ M8 ⟨rfl, e9⟩
    subst M8
    refine Gb_if_eq (tgt := 30) dX5_rowContinuedBy_16 (by decide) (fun h16 => ?_) (fun h16 => ?_)
    · refine G_iinc (v := (nI (j + 1))) (L2 := [some (.inr 17), some (.inl (nI r)), some (.inl (oI q)), some (.inl (nI (j + 1)))]) dX5_rowContinuedBy_30 rfl (nI_1 _) rfl ?_
      refine G_goto (tgt := 5) dX5_rowContinuedBy_33 (by decide) ?_
      exact ih (r - (j + 1)) (by omega) (j + 1) q rfl (by omega) (fun z x hx => by
        rcases (show x < j ∨ x = j by omega) with y | y
        · exact hq0 z x y
        · subst y
          exact dec_niff.mp h16) (fun x hx => by
        obtain ⟨a1, a2, a3⟩ := hq1 x hx
        exact ⟨by omega, a2, fun y hy z => by
          rcases (show y < j ∨ y = j by omega) with u | u
          · exact a3 y u z
          · subst u
            exact absurd z (dec_niff.mp h16)⟩)
    · rcases q with _ | b
      · have hq0 := hq0 rfl
        refine G_iload_n dX5_rowContinuedBy_19 rfl rfl ?_
        refine G_bipush (v := ((-9))) dX5_rowContinuedBy_20 (by decide) ?_
        refine G_icmp_eq (tgt := 28) dX5_rowContinuedBy_22 (by decide) (fun h22 => ?_) (fun h22 => ?_)
        · refine G_iload_n dX5_rowContinuedBy_28 rfl rfl ?_
          refine G_istore_n (L2 := [some (.inr 17), some (.inl (nI r)), some (.inl (nI j)), some (.inl (nI j))]) dX5_rowContinuedBy_29 rfl (Nat.le_of_ble_eq_true rfl) rfl ?_
          refine G_iinc (v := (nI (j + 1))) (L2 := [some (.inr 17), some (.inl (nI r)), some (.inl (nI j)), some (.inl (nI (j + 1)))]) dX5_rowContinuedBy_30 rfl (nI_1 _) rfl ?_
          refine G_goto (tgt := 5) dX5_rowContinuedBy_33 (by decide) ?_
          rw [show nI j = oI (some j) from rfl]
          refine ih (r - (j + 1)) (by omega) (j + 1) (some j) rfl (by omega) (fun z => by cases z) (fun x hx => ?_)
          cases hx
          exact ⟨by omega, dec_iff.mp h16, fun x hx z => by
            rcases (show x < j ∨ x = j by omega) with y | y
            · exact absurd z (hq0 x y)
            · exact y⟩
        · exact absurd rfl h22
      · obtain ⟨hq2, hq3, hq4⟩ := hq1 b rfl
        rw [show oI (some b) = nI b from rfl]
        refine G_iload_n dX5_rowContinuedBy_19 rfl rfl ?_
        refine G_bipush (v := ((-9))) dX5_rowContinuedBy_20 (by decide) ?_
        refine G_icmp_eq (tgt := 28) dX5_rowContinuedBy_22 (by decide) (fun h22 => ?_) (fun h22 => ?_)
        · exact absurd h22 (fun z => absurd (z ▸ nI_pos (show b < 2 ^ 31 by omega)) (by decide))
        · refine G_bipush (v := ((-9))) dX5_rowContinuedBy_25 (by decide) ?_
          refine G_iret dX5_rowContinuedBy_27 rfl rfl ?_
          exact ⟨by rw [prd_no (fun x hx hc => by
            have e1 := hc.2.1 b (by omega) hq3
            have e2 := hc.2.1 j (by omega) (dec_iff.mp h16)
            omega)]; rfl, rfl⟩
theorem c_cont {d w r : Nat} {s : RS} {M : Mem} (hR : RWx w s M) (hB : RB s) (hO : ∀ r r', r ≤ r' → r' < s.1 → s.2.1 r ≤ s.2.1 r') (hr : r < s.1) : Call l α D cA uX5_rowContinuedBy (d + 2) [.inr 17, .inl (nI r)] M (fun q M1 => q = .inl (oI (prd s r)) ∧ M1 = M) := by
  refine Call.of kX5_rowContinuedBy.1 (Nat.le_of_ble_eq_true rfl) ?_
  refine G_bipush (v := ((-9))) dX5_rowContinuedBy_0 (by decide) ?_
  refine G_istore_n (L2 := [some (.inr 17), some (.inl (nI r)), some (.inl (-9)), none]) dX5_rowContinuedBy_2 rfl (Nat.le_of_ble_eq_true rfl) rfl ?_
  refine G_iconst (v := (nI 0)) dX5_rowContinuedBy_3 (by decide) ?_
  refine G_istore_n (L2 := [some (.inr 17), some (.inl (nI r)), some (.inl (-9)), some (.inl (nI 0))]) dX5_rowContinuedBy_4 rfl (Nat.le_of_ble_eq_true rfl) rfl ?_
  exact l_cont1 hR hB hO hr _ 0 none rfl (Nat.zero_le _) (fun _ b hb => absurd hb (Nat.not_lt_zero _)) (fun b hb => by cases hb)
/-- what the parts' cells hold, after k rows -/
def PRx (k : Nat) (s : PS) (M : Mem) : Prop := M 17 14 = nI s.1 ∧ (∀ r, r < k → M 26 r = nI (s.2.1 r)) ∧ ∀ p, p < s.1 → M 27 p = nI (s.2.2.1 p) ∧ M 28 p = nI (s.2.2.2.1 p) ∧ M 29 p = nI (s.2.2.2.2 p)
def FRJ (M M1 : Mem) : Prop := (∀ q, q ≠ 17 → (q < 26 ∨ 29 < q) → M1 q = M q) ∧ ∀ j, j ≠ 14 → M1 17 j = M 17 j
theorem RWx_J {w : Nat} {s : RS} {M M1 : Mem} (h : RWx w s M) (hF : FRJ M M1) : RWx w s M1 := by
  refine ⟨by rw [hF.2 13 (by decide)]; exact h.1, fun r hr => ?_⟩
  rw [hF.1 21 (by decide) (by decide), hF.1 22 (by decide) (by decide), hF.1 23 (by decide) (by decide), hF.1 24 (by decide) (by decide), hF.1 25 (by decide) (by decide)]
  exact h.2 r hr
theorem parS_none {q : Nat → Option Nat} {r : Nat} (h : q r = none) : parS q (r + 1) = ((parS q r).1 + 1, updN (parS q r).2.1 r (parS q r).1, updN (parS q r).2.2.1 (parS q r).1 r, updN (parS q r).2.2.2.1 (parS q r).1 r, updN (parS q r).2.2.2.2 (parS q r).1 1) := by
  rw [parS, h]
theorem parS_some {q : Nat → Option Nat} {r b : Nat} (h : q r = some b) : parS q (r + 1) = ((parS q r).1, updN (parS q r).2.1 r ((parS q r).2.1 b), (parS q r).2.2.1, updN (parS q r).2.2.2.1 ((parS q r).2.1 b) r, updN (parS q r).2.2.2.2 ((parS q r).2.1 b) ((parS q r).2.2.2.2 ((parS q r).2.1 b) + 1)) := by
  rw [parS, h]
theorem l_join {d w : Nat} {s : RS} {M : Mem} (hR : RWx w s M) (hB : RB s) (hO : ∀ r r', r ≤ r' → r' < s.1 → s.2.1 r ≤ s.2.1 r') : ∀ (k r : Nat) (ps : PS) (M1 : Mem) (x2 x3 : Option AV), s.1 - r = k → r ≤ s.1 → parS (prd s) r = ps → FRJ M M1 → PRx r ps M1 → G l α D cA uX5_joinRows none (d + 3) (fun _ M1 => FRJ M M1 ∧ PRx s.1 (parS (prd s) s.1) M1) 7 [some (.inr 17), some (.inl (nI r)), x2, x3] [] M1 := by
  intro k
  induction k using Nat.strongRecOn with
  | _ k ih => ?_
  intro r ps M1 x2 x3 hk hr hps hF hP
  have k0 := hB.1
  have hR1 := RWx_J hR hF
  have hI : PI r ps := by rw [← hps]; exact PI_S (fun r b h => NX_lt hO (prd_some h).1 (prd_some h).2.1) r
  have k1 := hI.1
  refine G_iload_n dX5_joinRows_7 rfl rfl ?_
  refine G_aload_n dX5_joinRows_8 rfl rfl ?_
  refine G_getI (v := (nI (s.1))) dX5_joinRows_9 fX5_69 rfl rfl hR1.1 ?_
  refine Gn_icmp_ge (tgt := 119) dX5_joinRows_12 (by decide) (by omega) (by omega) (fun h12 => ?_) (fun h12 => ?_)
  · refine G_vret dX5_joinRows_119 rfl ?_
    have e : r = s.1 := by omega
    subst e
    exact ⟨hF, by rw [hps]; exact hP⟩
  · refine G_aload_n dX5_joinRows_15 rfl rfl ?_
    refine G_iload_n dX5_joinRows_16 rfl rfl ?_
    refine G_callVi (ν := uX5_rowContinuedBy) (As := [.inl (nI r)]) dX5_joinRows_17 nX5_165 kX5_rowContinuedBy rfl rfl rfl rfl rfl (Nat.le_of_ble_eq_true rfl) (c_cont hR1 hB hO (by omega)) ?_
    rintro _ M8 ⟨rfl, e9⟩
    subst M8
    refine G_istore_n (L2 := [some (.inr 17), some (.inl (nI r)), some (.inl (oI (prd s r))), x3]) dX5_joinRows_20 rfl (Nat.le_of_ble_eq_true rfl) rfl ?_
    rcases hz : prd s r with _ | b
    · skip
      refine G_iload_n dX5_joinRows_21 rfl rfl ?_
      refine G_bipush (v := ((-9))) dX5_joinRows_22 (by decide) ?_
      refine G_icmp_ne (tgt := 34) dX5_joinRows_24 (by decide) (fun h24 => ?_) (fun h24 => ?_)
      · exact absurd rfl h24
      · refine G_aload_n dX5_joinRows_27 rfl rfl ?_
        refine G_getI (v := (nI (ps.1))) dX5_joinRows_28 fX5_80 rfl rfl hP.1 ?_
        refine G_goto (tgt := 42) dX5_joinRows_31 (by decide) ?_
        refine G_istore_n (L2 := [some (.inr 17), some (.inl (nI r)), some (.inl (oI none)), some (.inl (nI (ps.1)))]) dX5_joinRows_42 rfl (Nat.le_of_ble_eq_true rfl) rfl ?_
        refine G_iload_n dX5_joinRows_43 rfl rfl ?_
        refine G_bipush (v := ((-9))) dX5_joinRows_44 (by decide) ?_
        refine G_icmp_ne (tgt := 77) dX5_joinRows_46 (by decide) (fun h46 => ?_) (fun h46 => ?_)
        · exact absurd rfl h46
        · refine G_aload_n dX5_joinRows_49 rfl rfl ?_
          refine G_getR (j := 27) dX5_joinRows_50 fX5_37 rfl rfl ?_
          refine G_iload_n dX5_joinRows_53 rfl rfl ?_
          refine G_iload_n dX5_joinRows_54 rfl rfl ?_
          refine G_callSv (ν := uX9_put) (As := [.inr 27, .inl (nI (ps.1)), .inl (nI r)]) dX5_joinRows_55 nX5_161 kX9_put rfl rfl rfl (Nat.le_of_ble_eq_true rfl) (c_puts (o := 27) (n := 48) rfl (by decide) (by omega)) ?_
          rintro _ M8 e9
          subst M8
          refine G_aload_n dX5_joinRows_58 rfl rfl ?_
          refine G_getR (j := 29) dX5_joinRows_59 fX5_43 rfl rfl ?_
          refine G_iload_n dX5_joinRows_62 rfl rfl ?_
          refine G_iconst (v := (nI 0)) dX5_joinRows_63 (by decide) ?_
          refine G_callSv (ν := uX9_put) (As := [.inr 29, .inl (nI (ps.1)), .inl (nI 0)]) dX5_joinRows_64 nX5_161 kX9_put rfl rfl rfl (Nat.le_of_ble_eq_true rfl) (c_puts (o := 29) (n := 48) rfl (by decide) (by omega)) ?_
          rintro _ M8 e9
          subst M8
          refine G_aload_n dX5_joinRows_67 rfl rfl ?_
          refine G_dup dX5_joinRows_68 ?_
          refine G_getI (v := (nI (ps.1))) dX5_joinRows_69 fX5_80 rfl rfl (by simp [ms]; exact hP.1) ?_
          refine G_iconst (v := (nI 1)) dX5_joinRows_72 (by decide) ?_
          refine G_iadd (v := (nI ((ps.1) + 1))) dX5_joinRows_73 (nI_add _ _) ?_
          refine G_put dX5_joinRows_74 pX5_80 rfl rfl ?_
          refine G_aload_n dX5_joinRows_77 rfl rfl ?_
          refine G_getR (j := 26) dX5_joinRows_78 fX5_34 rfl rfl ?_
          refine G_iload_n dX5_joinRows_81 rfl rfl ?_
          refine G_iload_n dX5_joinRows_82 rfl rfl ?_
          refine G_callSv (ν := uX9_put) (As := [.inr 26, .inl (nI r), .inl (nI (ps.1))]) dX5_joinRows_83 nX5_161 kX9_put rfl rfl rfl (Nat.le_of_ble_eq_true rfl) (c_puts (o := 26) (n := 48) rfl (by decide) (by omega)) ?_
          rintro _ M8 e9
          subst M8
          refine G_aload_n dX5_joinRows_86 rfl rfl ?_
          refine G_getR (j := 28) dX5_joinRows_87 fX5_40 rfl rfl ?_
          refine G_iload_n dX5_joinRows_90 rfl rfl ?_
          refine G_iload_n dX5_joinRows_91 rfl rfl ?_
          refine G_callSv (ν := uX9_put) (As := [.inr 28, .inl (nI (ps.1)), .inl (nI r)]) dX5_joinRows_92 nX5_161 kX9_put rfl rfl rfl (Nat.le_of_ble_eq_true rfl) (c_puts (o := 28) (n := 48) rfl (by decide) (by omega)) ?_
          rintro _ M8 e9
          subst M8
          refine G_aload_n dX5_joinRows_95 rfl rfl ?_
          refine G_getR (j := 29) dX5_joinRows_96 fX5_43 rfl rfl ?_
          refine G_iload_n dX5_joinRows_99 rfl rfl ?_
          refine G_aload_n dX5_joinRows_100 rfl rfl ?_
          refine G_getR (j := 29) dX5_joinRows_101 fX5_43 rfl rfl ?_
          refine G_iload_n dX5_joinRows_104 rfl rfl ?_
          refine G_callSi (ν := uX9_at) (As := [.inr 29, .inl (nI (ps.1))]) dX5_joinRows_105 nX5_72 kX9_at rfl rfl rfl (Nat.le_of_ble_eq_true rfl) (c_at (o := 29) (n := 48) (i := ps.1) rfl (by decide) (by omega)) ?_
          rintro _ M8 ⟨rfl, e9⟩
          subst M8
          rw [(show (ms (ms (ms (ms (ms M1 27 (ps.1) (nI r)) 29 (ps.1) (nI 0)) 17 14 (nI ((ps.1) + 1))) 26 r (nI (ps.1))) 28 (ps.1) (nI r)) 29 ps.1 = nI 0 from by simp [ms, upd])]
          refine G_iconst (v := (nI 1)) dX5_joinRows_108 (by decide) ?_
          refine G_iadd (v := (nI 1)) dX5_joinRows_109 (by decide) ?_
          refine G_callSv (ν := uX9_put) (As := [.inr 29, .inl (nI (ps.1)), .inl (nI 1)]) dX5_joinRows_110 nX5_161 kX9_put rfl rfl rfl (Nat.le_of_ble_eq_true rfl) (c_puts (o := 29) (n := 48) rfl (by decide) (by omega)) ?_
          rintro _ M8 e9
          subst M8
          refine G_iinc (v := (nI (r + 1))) (L2 := [some (.inr 17), some (.inl (nI (r + 1))), some (.inl (oI none)), some (.inl (nI (ps.1)))]) dX5_joinRows_113 rfl (nI_1 _) rfl ?_
          refine G_goto (tgt := 7) dX5_joinRows_116 (by decide) ?_
          have en := parS_none (q := prd s) (r := r) hz
          rw [hps] at en
          refine ih (s.1 - (r + 1)) (by omega) (r + 1) _ _ _ _ rfl (by omega) rfl ⟨fun q h1 h2 => ?_, fun j hj => ?_⟩ ?_
          · simp only [ms, if_neg h1, if_neg (show q ≠ 26 by omega), if_neg (show q ≠ 27 by omega), if_neg (show q ≠ 28 by omega), if_neg (show q ≠ 29 by omega)]
            exact hF.1 q h1 h2
          · simp [ms, upd, hj]
            exact hF.2 j hj
          · rw [en]
            refine ⟨by simp [ms, upd], fun j hj => ?_, fun p hp => ?_⟩
            · by_cases y : j = r
              · subst y
                simp [ms, upd, updN_k]
              · simp [ms, upd, y, updN_n y]
                exact hP.2.1 j (by omega)
            · by_cases y : p = ps.1
              · subst y
                simp [ms, upd, updN_k]
              · simp [ms, upd, y, updN_n y]
                exact hP.2.2 p (by have hp : p < ps.1 + 1 := hp; omega)
    · have hb := NX_lt hO (prd_some hz).1 (prd_some hz).2.1
      have hpb := hI.2.1 b hb
      have hle := (hI.2.2 _ hpb).2.2.1
      rw [show oI (some b) = nI b from rfl]
      refine G_iload_n dX5_joinRows_21 rfl rfl ?_
      refine G_bipush (v := ((-9))) dX5_joinRows_22 (by decide) ?_
      refine G_icmp_ne (tgt := 34) dX5_joinRows_24 (by decide) (fun h24 => ?_) (fun h24 => ?_)
      · refine G_aload_n dX5_joinRows_34 rfl rfl ?_
        refine G_getR (j := 26) dX5_joinRows_35 fX5_34 rfl rfl ?_
        refine G_iload_n dX5_joinRows_38 rfl rfl ?_
        refine G_callSi (ν := uX9_at) (As := [.inr 26, .inl (nI b)]) dX5_joinRows_39 nX5_72 kX9_at rfl rfl rfl (Nat.le_of_ble_eq_true rfl) (c_at (o := 26) (n := 48) (i := b) rfl (by decide) (by omega)) ?_
        rintro _ M8 ⟨rfl, e9⟩
        subst M8
        rw [hP.2.1 b (by omega)]
        refine G_istore_n (L2 := [some (.inr 17), some (.inl (nI r)), some (.inl (nI b)), some (.inl (nI (ps.2.1 b)))]) dX5_joinRows_42 rfl (Nat.le_of_ble_eq_true rfl) rfl ?_
        refine G_iload_n dX5_joinRows_43 rfl rfl ?_
        refine G_bipush (v := ((-9))) dX5_joinRows_44 (by decide) ?_
        refine G_icmp_ne (tgt := 77) dX5_joinRows_46 (by decide) (fun h46 => ?_) (fun h46 => ?_)
        · refine G_aload_n dX5_joinRows_77 rfl rfl ?_
          refine G_getR (j := 26) dX5_joinRows_78 fX5_34 rfl rfl ?_
          refine G_iload_n dX5_joinRows_81 rfl rfl ?_
          refine G_iload_n dX5_joinRows_82 rfl rfl ?_
          refine G_callSv (ν := uX9_put) (As := [.inr 26, .inl (nI r), .inl (nI (ps.2.1 b))]) dX5_joinRows_83 nX5_161 kX9_put rfl rfl rfl (Nat.le_of_ble_eq_true rfl) (c_puts (o := 26) (n := 48) rfl (by decide) (by omega)) ?_
          rintro _ M8 e9
          subst M8
          refine G_aload_n dX5_joinRows_86 rfl rfl ?_
          refine G_getR (j := 28) dX5_joinRows_87 fX5_40 rfl rfl ?_
          refine G_iload_n dX5_joinRows_90 rfl rfl ?_
          refine G_iload_n dX5_joinRows_91 rfl rfl ?_
          refine G_callSv (ν := uX9_put) (As := [.inr 28, .inl (nI (ps.2.1 b)), .inl (nI r)]) dX5_joinRows_92 nX5_161 kX9_put rfl rfl rfl (Nat.le_of_ble_eq_true rfl) (c_puts (o := 28) (n := 48) rfl (by decide) (by omega)) ?_
          rintro _ M8 e9
          subst M8
          refine G_aload_n dX5_joinRows_95 rfl rfl ?_
          refine G_getR (j := 29) dX5_joinRows_96 fX5_43 rfl rfl ?_
          refine G_iload_n dX5_joinRows_99 rfl rfl ?_
          refine G_aload_n dX5_joinRows_100 rfl rfl ?_
          refine G_getR (j := 29) dX5_joinRows_101 fX5_43 rfl rfl ?_
          refine G_iload_n dX5_joinRows_104 rfl rfl ?_
          refine G_callSi (ν := uX9_at) (As := [.inr 29, .inl (nI (ps.2.1 b))]) dX5_joinRows_105 nX5_72 kX9_at rfl rfl rfl (Nat.le_of_ble_eq_true rfl) (c_at (o := 29) (n := 48) (i := ps.2.1 b) rfl (by decide) (by omega)) ?_
          rintro _ M8 ⟨rfl, e9⟩
          subst M8
          rw [(show (ms (ms M1 26 r (nI (ps.2.1 b))) 28 (ps.2.1 b) (nI r)) 29 (ps.2.1 b) = nI (ps.2.2.2.2 (ps.2.1 b)) from by simp [ms, upd]; exact (hP.2.2 _ hpb).2.2)]
          refine G_iconst (v := (nI 1)) dX5_joinRows_108 (by decide) ?_
          refine G_iadd (v := (nI ((ps.2.2.2.2 (ps.2.1 b)) + 1))) dX5_joinRows_109 (nI_add _ _) ?_
          refine G_callSv (ν := uX9_put) (As := [.inr 29, .inl (nI (ps.2.1 b)), .inl (nI ((ps.2.2.2.2 (ps.2.1 b)) + 1))]) dX5_joinRows_110 nX5_161 kX9_put rfl rfl rfl (Nat.le_of_ble_eq_true rfl) (c_puts (o := 29) (n := 48) rfl (by decide) (by omega)) ?_
          rintro _ M8 e9
          subst M8
          refine G_iinc (v := (nI (r + 1))) (L2 := [some (.inr 17), some (.inl (nI (r + 1))), some (.inl (nI b)), some (.inl (nI (ps.2.1 b)))]) dX5_joinRows_113 rfl (nI_1 _) rfl ?_
          refine G_goto (tgt := 7) dX5_joinRows_116 (by decide) ?_
          have en := parS_some (q := prd s) (r := r) hz
          rw [hps] at en
          refine ih (s.1 - (r + 1)) (by omega) (r + 1) _ _ _ _ rfl (by omega) rfl ⟨fun q h1 h2 => ?_, fun j hj => ?_⟩ ?_
          · simp only [ms, if_neg h1, if_neg (show q ≠ 26 by omega), if_neg (show q ≠ 27 by omega), if_neg (show q ≠ 28 by omega), if_neg (show q ≠ 29 by omega)]
            exact hF.1 q h1 h2
          · simp [ms]
            exact hF.2 j hj
          · rw [en]
            refine ⟨by simp [ms]; exact hP.1, fun j hj => ?_, fun p hp => ?_⟩
            · by_cases y : j = r
              · subst y
                simp [ms, upd, updN_k]
              · simp [ms, upd, y, updN_n y]
                exact hP.2.1 j (by omega)
            · have hp : p < ps.1 := hp
              by_cases y : p = ps.2.1 b
              · subst y
                simp [ms, upd, updN_k]
                exact (hP.2.2 _ hp).1
              · simp [ms, upd, y, updN_n y]
                exact hP.2.2 p hp
        · exact absurd h46 (fun z => absurd (z ▸ nI_pos (show b < 2 ^ 31 by omega)) (by decide))
      · exact absurd h24 (fun z => absurd (z ▸ nI_pos (show b < 2 ^ 31 by omega)) (by decide))
theorem c_join {d w : Nat} {s : RS} {M : Mem} (hR : RWx w s M) (hB : RB s) (hO : ∀ r r', r ≤ r' → r' < s.1 → s.2.1 r ≤ s.2.1 r') : Call l α D cA uX5_joinRows (d + 3) [.inr 17] M (fun _ M1 => FRJ M M1 ∧ PRx s.1 (parS (prd s) s.1) M1) := by
  refine Call.of kX5_joinRows.1 (Nat.le_of_ble_eq_true rfl) ?_
  refine G_aload_n dX5_joinRows_0 rfl rfl ?_
  refine G_iconst (v := (nI 0)) dX5_joinRows_1 (by decide) ?_
  refine G_put dX5_joinRows_2 pX5_80 rfl rfl ?_
  refine G_iconst (v := (nI 0)) dX5_joinRows_5 (by decide) ?_
  refine G_istore_n (L2 := [some (.inr 17), some (.inl (nI 0)), none, none]) dX5_joinRows_6 rfl (Nat.le_of_ble_eq_true rfl) rfl ?_
  refine l_join hR hB hO _ 0 (parS (prd s) 0) _ none none rfl (Nat.zero_le _) rfl ⟨fun q h1 h2 => ms_q h1, fun j hj => by simp [ms, upd, hj]⟩ ⟨by simp [ms, upd, parS], fun j hj => absurd hj (Nat.not_lt_zero _), fun j hj => absurd hj (Nat.not_lt_zero _)⟩
def FRF (M M1 : Mem) : Prop := (∀ q, q ≠ 17 → (q < 21 ∨ 25 < q) → M1 q = M q) ∧ ∀ j, j ≠ 13 → M1 17 j = M 17 j
def llO (w W H : Nat) : Nat := if w = 0 then W else H
def lcO (w W H : Nat) : Nat := if w = 0 then H else W
theorem ll_in {w W H i p : Nat} (hW : W ≤ 8) (hH : H ≤ 6) (hi : i < lcO w W H) (hp : p < llO w W H) : inG w i p ∧ llO w W H * i + p < 48 ∧ llO w W H ≤ 8 ∧ lcO w W H ≤ 8 := by
  unfold llO lcO inG at *
  by_cases z : w = 0
  · simp only [if_pos z] at *
    have := Nat.mul_le_mul hW (show i ≤ 5 by omega)
    omega
  · simp only [if_neg z] at *
    have := Nat.mul_le_mul hH (show i ≤ 7 by omega)
    omega
noncomputable def cF (F : Nat → Option Nat) (w f i p : Nat) : Bool := decide (F (plc w i p) = some f)
theorem RWx_was {w i p : Nat} {s : RS} {M : Mem} (h : RWx w s M) (h1 : 1 ≤ s.1) (h2 : s.2.1 (s.1 - 1) = i) : RWx w (s.1, s.2.1, s.2.2.1, updN s.2.2.2 (s.1 - 1) p) (ms (ms M 23 (s.1 - 1) (nI p)) 25 (s.1 - 1) (nI (plc w i p))) := by
  refine ⟨by simp [ms]; exact h.1, fun r hr => ?_⟩
  have hr : r < s.1 := hr
  by_cases y : r = s.1 - 1
  · subst y
    simp [ms, upd, updN_k]
    have := h.2 _ hr
    exact ⟨this.1, this.2.1, this.2.2.2.1, by rw [h2]⟩
  · simp [ms, upd, y, updN_n y]
    exact h.2 r hr
theorem RWx_new {w i p : Nat} {s : RS} {M : Mem} (h : RWx w s M) : RWx w (s.1 + 1, updN s.2.1 s.1 i, updN s.2.2.1 s.1 p, updN s.2.2.2 s.1 p) (ms (ms (ms (ms (ms (ms M 21 s.1 (nI i)) 22 s.1 (nI p)) 24 s.1 (nI (plc w i p))) 17 13 (nI (s.1 + 1))) 23 s.1 (nI p)) 25 s.1 (nI (plc w i p))) := by
  refine ⟨by simp [ms, upd], fun r hr => ?_⟩
  have hr : r < s.1 + 1 := hr
  by_cases y : r = s.1
  · subst y
    simp [ms, upd, updN_k]
  · simp [ms, upd, y, updN_n y]
    exact h.2 r (by omega)
theorem c_startRow {d n : Nat} {i p q : Nat} {M : Mem} (hM : M 17 13 = nI n) (hn : n < 48) : Call l α D cA uX5_startRow (d + 1) [.inr 17, .inl (nI i), .inl (nI p), .inl (nI q)] M (fun _ M1 => M1 = ms (ms (ms (ms M 21 n (nI i)) 22 n (nI p)) 24 n (nI q)) 17 13 (nI (n + 1))) := by
  refine Call.of kX5_startRow.1 (Nat.le_of_ble_eq_true rfl) ?_
  refine G_aload_n dX5_startRow_0 rfl rfl ?_
  refine G_getR (j := 21) dX5_startRow_1 fX5_18 rfl rfl ?_
  refine G_aload_n dX5_startRow_4 rfl rfl ?_
  refine G_getI (v := (nI n)) dX5_startRow_5 fX5_69 rfl rfl hM ?_
  refine G_iload_n dX5_startRow_8 rfl rfl ?_
  refine G_callSv (ν := uX9_put) (As := [.inr 21, .inl (nI n), .inl (nI i)]) dX5_startRow_9 nX5_161 kX9_put rfl rfl rfl (Nat.le_of_ble_eq_true rfl) (c_puts (o := 21) (n := 48) rfl (by decide) (hn)) ?_
  rintro _ M8 e9
  subst M8
  refine G_aload_n dX5_startRow_12 rfl rfl ?_
  refine G_getR (j := 22) dX5_startRow_13 fX5_22 rfl rfl ?_
  refine G_aload_n dX5_startRow_16 rfl rfl ?_
  refine G_getI (v := (nI n)) dX5_startRow_17 fX5_69 rfl rfl (by simp [ms, hM]) ?_
  refine G_iload_n dX5_startRow_20 rfl rfl ?_
  refine G_callSv (ν := uX9_put) (As := [.inr 22, .inl (nI n), .inl (nI p)]) dX5_startRow_21 nX5_161 kX9_put rfl rfl rfl (Nat.le_of_ble_eq_true rfl) (c_puts (o := 22) (n := 48) rfl (by decide) (hn)) ?_
  rintro _ M8 e9
  subst M8
  refine G_aload_n dX5_startRow_24 rfl rfl ?_
  refine G_getR (j := 24) dX5_startRow_25 fX5_28 rfl rfl ?_
  refine G_aload_n dX5_startRow_28 rfl rfl ?_
  refine G_getI (v := (nI n)) dX5_startRow_29 fX5_69 rfl rfl (by simp [ms, hM]) ?_
  refine G_iload_n dX5_startRow_32 rfl rfl ?_
  refine G_callSv (ν := uX9_put) (As := [.inr 24, .inl (nI n), .inl (nI q)]) dX5_startRow_33 nX5_161 kX9_put rfl rfl rfl (Nat.le_of_ble_eq_true rfl) (c_puts (o := 24) (n := 48) rfl (by decide) (hn)) ?_
  rintro _ M8 e9
  subst M8
  refine G_aload_n dX5_startRow_36 rfl rfl ?_
  refine G_dup dX5_startRow_37 ?_
  refine G_getI (v := (nI n)) dX5_startRow_38 fX5_69 rfl rfl (by simp [ms, hM]) ?_
  refine G_iconst (v := (nI 1)) dX5_startRow_41 (by decide) ?_
  refine G_iadd (v := (nI (n + 1))) dX5_startRow_42 (nI_add _ _) ?_
  refine G_put dX5_startRow_43 pX5_69 rfl rfl ?_
  refine G_vret dX5_startRow_46 rfl ?_
  exact rfl
theorem l_findI {d w f W H : Nat} {F : Nat → Option Nat} {M : Mem} {i : Nat} {Q : AV → Mem → Prop} (hw : M 17 11 = nI w) (w2 : w < 2) (hgW : M 2 0 = nI W) (hgH : M 2 1 = nI H) (hW : W ≤ 8) (hH : H ≤ 6) (hF : ∀ q, q < 48 → M 12 q = oI (F q)) (hFb : ∀ q x, F q = some x → x < 48) (hf : f < 48) (hi : i < lcO w W H) (out : ∀ (M1 : Mem) (x6 x7 x8 x9 : Option AV), FRF M M1 → RWx w (rowP (cF F w f i) i (llO w W H) (rowA (cF F w f) (llO w W H) i)) M1 → G l α D cA uX5_findRows none (d + 3) Q 143 [some (.inr 17), some (.inr 1), some (.inr 8), some (.inl (nI f)), some (.inl (nI ((lcO w W H)))), some (.inl (nI i)), x6, x7, x8, x9] [] M1) :
  ∀ (k p : Nat) (s : RS) (M1 : Mem) (x8 x9 : Option AV), llO w W H - p = k → p ≤ llO w W H → rowP (cF F w f i) i p (rowA (cF F w f) (llO w W H) i) = s → FRF M M1 → RWx w s M1 → G l α D cA uX5_findRows none (d + 3) Q 41 [some (.inr 17), some (.inr 1), some (.inr 8), some (.inl (nI f)), some (.inl (nI ((lcO w W H)))), some (.inl (nI i)), some (.inl (bI ((wasC (cF F w f i) p)))), some (.inl (nI p)), x8, x9] [] M1 := by
  intro k
  induction k using Nat.strongRecOn with
  | _ k ih => ?_
  intro p s M1 x8 x9 hk hp hs hFr hR
  have hI : RI (cF F w f) (llO w W H) i p s := by rw [← hs]; exact RI_P (RI_A i) p hp
  have hll : llO w W H ≤ 8 := by unfold llO; split <;> omega
  refine G_iload dX5_findRows_41 rfl ?_
  refine G_aload_n dX5_findRows_43 rfl rfl ?_
  refine G_aload_n dX5_findRows_44 rfl rfl ?_
  refine G_callVi (ν := uX5_lineLength) (As := [.inr 1]) dX5_findRows_45 nX5_123 kX5_lineLength rfl rfl rfl rfl rfl (Nat.le_of_ble_eq_true rfl) (c_lineLength (w := w) (W := W) (H := H) (by rw [hFr.2 11 (by decide)]; exact hw) w2 (by rw [hFr.1 2 (by decide) (by decide)]; exact hgW) (by rw [hFr.1 2 (by decide) (by decide)]; exact hgH)) ?_
  rintro _ M8 ⟨rfl, e9⟩
  subst M8
  rw [show (if w = 0 then W else H) = llO w W H from rfl]
  refine Gn_icmp_ge (tgt := 143) dX5_findRows_48 (by decide) (by omega) (by omega) (fun h48 => ?_) (fun h48 => ?_)
  · have e : p = llO w W H := by omega
    subst e
    exact out M1 _ _ _ _ hFr (by rw [hs]; exact hR)
  · have hin := ll_in (w := w) hW hH hi (show p < llO w W H by omega)
    have hnb : s.1 < 48 := Nat.lt_of_le_of_lt hI.1 hin.2.1
    refine G_aload_n dX5_findRows_51 rfl rfl ?_
    refine G_iload dX5_findRows_52 rfl ?_
    refine G_iload dX5_findRows_54 rfl ?_
    refine G_callVi (ν := uX5_placeIn) (As := [.inl (nI i), .inl (nI p)]) dX5_findRows_56 nX5_129 kX5_placeIn rfl rfl rfl rfl rfl (Nat.le_of_ble_eq_true rfl) (c_placeIn (w := w) (by rw [hFr.2 11 (by decide)]; exact hw) w2 hin.1) ?_
    rintro _ M8 ⟨rfl, e9⟩
    subst M8
    have hpl := inG_lt hin.1
    refine G_istore (L2 := [some (.inr 17), some (.inr 1), some (.inr 8), some (.inl (nI f)), some (.inl (nI ((lcO w W H)))), some (.inl (nI i)), some (.inl (bI ((wasC (cF F w f i) p)))), some (.inl (nI p)), some (.inl (nI (plc w i p))), x9]) dX5_findRows_59 (Nat.le_of_ble_eq_true rfl) rfl ?_
    refine G_aload_n dX5_findRows_61 rfl rfl ?_
    refine G_iload dX5_findRows_62 rfl ?_
    refine G_callVi (ν := uX1_fieldAt) (As := [.inl (nI (plc w i p))]) dX5_findRows_64 nX5_152 kX1_fieldAt rfl rfl rfl rfl rfl (Nat.le_of_ble_eq_true rfl) (c_fieldAt hpl (x := oI (F (plc w i p))) (by rw [hFr.1 12 (by decide) (by decide)]; exact hF _ hpl)) ?_
    rintro _ M8 ⟨rfl, e9⟩
    subst M8
    refine G_iload_n dX5_findRows_67 rfl rfl ?_
    refine G_icmp_ne (tgt := 75) dX5_findRows_68 (by decide) (fun h68 => ?_) (fun h68 => ?_)
    · have hc : cF F w f i p = false := decide_eq_false (fun z => h68 (by rw [z]; rfl))
      refine G_iconst (v := (nI 0)) dX5_findRows_75 (by decide) ?_
      refine G_istore (L2 := [some (.inr 17), some (.inr 1), some (.inr 8), some (.inl (nI f)), some (.inl (nI ((lcO w W H)))), some (.inl (nI i)), some (.inl (bI ((wasC (cF F w f i) p)))), some (.inl (nI p)), some (.inl (nI (plc w i p))), some (.inl (nI 0))]) dX5_findRows_76 (Nat.le_of_ble_eq_true rfl) rfl ?_
      refine G_iload dX5_findRows_78 rfl ?_
      refine Gn_if_eq (tgt := 98) dX5_findRows_80 (by decide) (by omega) (fun h80 => ?_) (fun h80 => ?_)
      · refine G_iload dX5_findRows_98 rfl ?_
        refine Gn_if_eq (tgt := 133) dX5_findRows_100 (by decide) (by omega) (fun h100 => ?_) (fun h100 => ?_)
        · refine G_iload dX5_findRows_133 rfl ?_
          refine G_istore (L2 := [some (.inr 17), some (.inr 1), some (.inr 8), some (.inl (nI f)), some (.inl (nI ((lcO w W H)))), some (.inl (nI i)), some (.inl (nI 0)), some (.inl (nI p)), some (.inl (nI (plc w i p))), some (.inl (nI 0))]) dX5_findRows_135 (Nat.le_of_ble_eq_true rfl) rfl ?_
          refine G_iinc (v := (nI (p + 1))) (L2 := [some (.inr 17), some (.inr 1), some (.inr 8), some (.inl (nI f)), some (.inl (nI ((lcO w W H)))), some (.inl (nI i)), some (.inl (nI 0)), some (.inl (nI (p + 1))), some (.inl (nI (plc w i p))), some (.inl (nI 0))]) dX5_findRows_137 rfl (nI_1 _) rfl ?_
          refine G_goto (tgt := 41) dX5_findRows_140 (by decide) ?_
          have hw1 : wasC (cF F w f i) (p + 1) = false := by simp [wasC, hc]
          rw [show nI 0 = bI (wasC (cF F w f i) (p + 1)) by rw [hw1]; rfl]
          exact ih (llO w W H - (p + 1)) (by omega) (p + 1) s M1 _ _ rfl (by omega) (by rw [rowP, hs, hc]; rfl) hFr hR
        · omega
      · omega
    · have hc : cF F w f i p = true := decide_eq_true (oI_some (hFb _) (hf := hf) h68)
      refine G_iconst (v := (nI 1)) dX5_findRows_71 (by decide) ?_
      refine G_goto (tgt := 76) dX5_findRows_72 (by decide) ?_
      refine G_istore (L2 := [some (.inr 17), some (.inr 1), some (.inr 8), some (.inl (nI f)), some (.inl (nI ((lcO w W H)))), some (.inl (nI i)), some (.inl (bI ((wasC (cF F w f i) p)))), some (.inl (nI p)), some (.inl (nI (plc w i p))), some (.inl (nI 1))]) dX5_findRows_76 (Nat.le_of_ble_eq_true rfl) rfl ?_
      refine G_iload dX5_findRows_78 rfl ?_
      refine Gn_if_eq (tgt := 98) dX5_findRows_80 (by decide) (by omega) (fun h80 => ?_) (fun h80 => ?_)
      · omega
      · refine G_iload dX5_findRows_83 rfl ?_
        refine Gb_if_ne (tgt := 98) dX5_findRows_85 (by decide) (fun h85 => ?_) (fun h85 => ?_)
        · refine G_iload dX5_findRows_98 rfl ?_
          refine Gn_if_eq (tgt := 133) dX5_findRows_100 (by decide) (by omega) (fun h100 => ?_) (fun h100 => ?_)
          · omega
          · obtain ⟨hz1, hz2⟩ := hI.2.2.2 h85
            refine G_aload_n dX5_findRows_103 rfl rfl ?_
            refine G_getR (j := 23) dX5_findRows_104 fX5_25 rfl rfl ?_
            refine G_aload_n dX5_findRows_107 rfl rfl ?_
            refine G_getI (v := (nI (s.1))) dX5_findRows_108 fX5_69 rfl rfl hR.1 ?_
            refine G_iconst (v := (nI 1)) dX5_findRows_111 (by decide) ?_
            refine G_isub (v := (nI ((s.1) - 1))) dX5_findRows_112 (pk_sub (by omega)) ?_
            refine G_iload dX5_findRows_113 rfl ?_
            refine G_callSv (ν := uX9_put) (As := [.inr 23, .inl (nI ((s.1) - 1)), .inl (nI p)]) dX5_findRows_115 nX5_161 kX9_put rfl rfl rfl (Nat.le_of_ble_eq_true rfl) (c_puts (o := 23) (n := 48) rfl (by decide) (by omega)) ?_
            rintro _ M8 e9
            subst M8
            refine G_aload_n dX5_findRows_118 rfl rfl ?_
            refine G_getR (j := 25) dX5_findRows_119 fX5_31 rfl rfl ?_
            refine G_aload_n dX5_findRows_122 rfl rfl ?_
            refine G_getI (v := (nI (s.1))) dX5_findRows_123 fX5_69 rfl rfl (by simp [ms]; exact hR.1) ?_
            refine G_iconst (v := (nI 1)) dX5_findRows_126 (by decide) ?_
            refine G_isub (v := (nI ((s.1) - 1))) dX5_findRows_127 (pk_sub (by omega)) ?_
            refine G_iload dX5_findRows_128 rfl ?_
            refine G_callSv (ν := uX9_put) (As := [.inr 25, .inl (nI ((s.1) - 1)), .inl (nI (plc w i p))]) dX5_findRows_130 nX5_161 kX9_put rfl rfl rfl (Nat.le_of_ble_eq_true rfl) (c_puts (o := 25) (n := 48) rfl (by decide) (by omega)) ?_
            rintro _ M8 e9
            subst M8
            refine G_iload dX5_findRows_133 rfl ?_
            refine G_istore (L2 := [some (.inr 17), some (.inr 1), some (.inr 8), some (.inl (nI f)), some (.inl (nI ((lcO w W H)))), some (.inl (nI i)), some (.inl (nI 1)), some (.inl (nI p)), some (.inl (nI (plc w i p))), some (.inl (nI 1))]) dX5_findRows_135 (Nat.le_of_ble_eq_true rfl) rfl ?_
            refine G_iinc (v := (nI (p + 1))) (L2 := [some (.inr 17), some (.inr 1), some (.inr 8), some (.inl (nI f)), some (.inl (nI ((lcO w W H)))), some (.inl (nI i)), some (.inl (nI 1)), some (.inl (nI (p + 1))), some (.inl (nI (plc w i p))), some (.inl (nI 1))]) dX5_findRows_137 rfl (nI_1 _) rfl ?_
            refine G_goto (tgt := 41) dX5_findRows_140 (by decide) ?_
            have hw1 : wasC (cF F w f i) (p + 1) = true := by simp [wasC, hc]
            rw [show nI 1 = bI (wasC (cF F w f i) (p + 1)) by rw [hw1]; rfl]
            refine ih (llO w W H - (p + 1)) (by omega) (p + 1) _ _ _ _ rfl (by omega) (by rw [rowP, hs, hc, h85]; rfl) ⟨fun q h1 h2 => ?_, fun j hj => ?_⟩ (RWx_was hR hz1 hz2)
            · simp only [ms, if_neg (show q ≠ 23 by omega), if_neg (show q ≠ 25 by omega)]
              exact hFr.1 q h1 h2
            · simp [ms]
              exact hFr.2 j hj
        · refine G_aload_n dX5_findRows_88 rfl rfl ?_
          refine G_iload dX5_findRows_89 rfl ?_
          refine G_iload dX5_findRows_91 rfl ?_
          refine G_iload dX5_findRows_93 rfl ?_
          refine G_callVv (ν := uX5_startRow) (As := [.inl (nI i), .inl (nI p), .inl (nI (plc w i p))]) dX5_findRows_95 nX5_157 kX5_startRow rfl rfl rfl rfl rfl (Nat.le_of_ble_eq_true rfl) (c_startRow (n := s.1) hR.1 (by omega)) ?_
          rintro _ M8 e9
          subst M8
          refine G_iload dX5_findRows_98 rfl ?_
          refine Gn_if_eq (tgt := 133) dX5_findRows_100 (by decide) (by omega) (fun h100 => ?_) (fun h100 => ?_)
          · omega
          · refine G_aload_n dX5_findRows_103 rfl rfl ?_
            refine G_getR (j := 23) dX5_findRows_104 fX5_25 rfl rfl ?_
            refine G_aload_n dX5_findRows_107 rfl rfl ?_
            refine G_getI (v := (nI (s.1 + 1))) dX5_findRows_108 fX5_69 rfl rfl (by simp [ms, upd]) ?_
            refine G_iconst (v := (nI 1)) dX5_findRows_111 (by decide) ?_
            refine G_isub (v := (nI (s.1))) dX5_findRows_112 (by rw [pk_sub (by omega), Nat.add_sub_cancel]) ?_
            refine G_iload dX5_findRows_113 rfl ?_
            refine G_callSv (ν := uX9_put) (As := [.inr 23, .inl (nI (s.1)), .inl (nI p)]) dX5_findRows_115 nX5_161 kX9_put rfl rfl rfl (Nat.le_of_ble_eq_true rfl) (c_puts (o := 23) (n := 48) rfl (by decide) (by omega)) ?_
            rintro _ M8 e9
            subst M8
            refine G_aload_n dX5_findRows_118 rfl rfl ?_
            refine G_getR (j := 25) dX5_findRows_119 fX5_31 rfl rfl ?_
            refine G_aload_n dX5_findRows_122 rfl rfl ?_
            refine G_getI (v := (nI (s.1 + 1))) dX5_findRows_123 fX5_69 rfl rfl (by simp [ms, upd]) ?_
            refine G_iconst (v := (nI 1)) dX5_findRows_126 (by decide) ?_
            refine G_isub (v := (nI (s.1))) dX5_findRows_127 (by rw [pk_sub (by omega), Nat.add_sub_cancel]) ?_
            refine G_iload dX5_findRows_128 rfl ?_
            refine G_callSv (ν := uX9_put) (As := [.inr 25, .inl (nI (s.1)), .inl (nI (plc w i p))]) dX5_findRows_130 nX5_161 kX9_put rfl rfl rfl (Nat.le_of_ble_eq_true rfl) (c_puts (o := 25) (n := 48) rfl (by decide) (by omega)) ?_
            rintro _ M8 e9
            subst M8
            refine G_iload dX5_findRows_133 rfl ?_
            refine G_istore (L2 := [some (.inr 17), some (.inr 1), some (.inr 8), some (.inl (nI f)), some (.inl (nI ((lcO w W H)))), some (.inl (nI i)), some (.inl (nI 1)), some (.inl (nI p)), some (.inl (nI (plc w i p))), some (.inl (nI 1))]) dX5_findRows_135 (Nat.le_of_ble_eq_true rfl) rfl ?_
            refine G_iinc (v := (nI (p + 1))) (L2 := [some (.inr 17), some (.inr 1), some (.inr 8), some (.inl (nI f)), some (.inl (nI ((lcO w W H)))), some (.inl (nI i)), some (.inl (nI 1)), some (.inl (nI (p + 1))), some (.inl (nI (plc w i p))), some (.inl (nI 1))]) dX5_findRows_137 rfl (nI_1 _) rfl ?_
            refine G_goto (tgt := 41) dX5_findRows_140 (by decide) ?_
            have hw1 : wasC (cF F w f i) (p + 1) = true := by simp [wasC, hc]
            rw [show nI 1 = bI (wasC (cF F w f i) (p + 1)) by rw [hw1]; rfl]
            refine ih (llO w W H - (p + 1)) (by omega) (p + 1) _ _ _ _ rfl (by omega) (by rw [rowP, hs, hc, h85]; rfl) ⟨fun q h1 h2 => ?_, fun j hj => ?_⟩ (RWx_new hR)
            · simp only [ms, if_neg h1, if_neg (show q ≠ 21 by omega), if_neg (show q ≠ 22 by omega), if_neg (show q ≠ 24 by omega), if_neg (show q ≠ 23 by omega), if_neg (show q ≠ 25 by omega)]
              exact hFr.1 q h1 h2
            · simp [ms, upd, hj]
              exact hFr.2 j hj
theorem l_findO {d w f W H : Nat} {F : Nat → Option Nat} {M : Mem} (hw : M 17 11 = nI w) (w2 : w < 2) (hgW : M 2 0 = nI W) (hgH : M 2 1 = nI H) (hW : W ≤ 8) (hH : H ≤ 6) (hF : ∀ q, q < 48 → M 12 q = oI (F q)) (hFb : ∀ q x, F q = some x → x < 48) (hf : f < 48) : ∀ (k i : Nat) (M1 : Mem) (x6 x7 x8 x9 : Option AV), lcO w W H - i = k → i ≤ lcO w W H → FRF M M1 → RWx w (rowA (cF F w f) (llO w W H) i) M1 → G l α D cA uX5_findRows none (d + 3) (fun _ M1 => FRF M M1 ∧ RWx w (rowA (cF F w f) (llO w W H) (lcO w W H)) M1) 28 [some (.inr 17), some (.inr 1), some (.inr 8), some (.inl (nI f)), some (.inl (nI ((lcO w W H)))), some (.inl (nI i)), x6, x7, x8, x9] [] M1 := by
  intro k
  induction k using Nat.strongRecOn with
  | _ k ih => ?_
  intro i M1 x6 x7 x8 x9 hk hi hFr hR
  have hlc : lcO w W H ≤ 8 := by unfold lcO; split <;> omega
  refine G_iload dX5_findRows_28 rfl ?_
  refine G_iload dX5_findRows_30 rfl ?_
  refine Gn_icmp_ge (tgt := 149) dX5_findRows_32 (by decide) (by omega) (by omega) (fun h32 => ?_) (fun h32 => ?_)
  · refine G_vret dX5_findRows_149 rfl ?_
    have e : i = lcO w W H := by omega
    rw [e] at hR
    exact ⟨hFr, hR⟩
  · refine G_iconst (v := (nI 0)) dX5_findRows_35 (by decide) ?_
    refine G_istore (L2 := [some (.inr 17), some (.inr 1), some (.inr 8), some (.inl (nI f)), some (.inl (nI ((lcO w W H)))), some (.inl (nI i)), some (.inl (nI 0)), x7, x8, x9]) dX5_findRows_36 (Nat.le_of_ble_eq_true rfl) rfl ?_
    refine G_iconst (v := (nI 0)) dX5_findRows_38 (by decide) ?_
    refine G_istore (L2 := [some (.inr 17), some (.inr 1), some (.inr 8), some (.inl (nI f)), some (.inl (nI ((lcO w W H)))), some (.inl (nI i)), some (.inl (nI 0)), some (.inl (nI 0)), x8, x9]) dX5_findRows_39 (Nat.le_of_ble_eq_true rfl) rfl ?_
    rw [show nI 0 = bI (wasC (cF F w f i) 0) from rfl]
    refine l_findI (M := M1) (by rw [hFr.2 11 (by decide)]; exact hw) w2 (by rw [hFr.1 2 (by decide) (by decide)]; exact hgW) (by rw [hFr.1 2 (by decide) (by decide)]; exact hgH) hW hH (fun q hq => by rw [hFr.1 12 (by decide) (by decide)]; exact hF q hq) hFb hf (by omega) ?_ _ 0 _ M1 _ _ rfl (Nat.zero_le _) rfl ⟨fun _ _ _ => rfl, fun _ _ => rfl⟩ hR
    intro M2 y6 y7 y8 y9 hF2 hR2
    refine G_iinc (v := (nI (i + 1))) (L2 := [some (.inr 17), some (.inr 1), some (.inr 8), some (.inl (nI f)), some (.inl (nI (lcO w W H))), some (.inl (nI (i + 1))), y6, y7, y8, y9]) dX5_findRows_143 rfl (nI_1 _) rfl ?_
    refine G_goto (tgt := 28) dX5_findRows_146 (by decide) ?_
    exact ih (lcO w W H - (i + 1)) (by omega) (i + 1) M2 y6 y7 y8 y9 rfl (by omega) ⟨fun q h1 h2 => (hF2.1 q h1 h2).trans (hFr.1 q h1 h2), fun j hj => (hF2.2 j hj).trans (hFr.2 j hj)⟩ hR2
theorem c_find {d w f W H : Nat} {F : Nat → Option Nat} {M : Mem} (hw : M 17 11 = nI w) (w2 : w < 2) (hgW : M 2 0 = nI W) (hgH : M 2 1 = nI H) (hW : W ≤ 8) (hH : H ≤ 6) (hF : ∀ q, q < 48 → M 12 q = oI (F q)) (hFb : ∀ q x, F q = some x → x < 48) (hf : f < 48) : Call l α D cA uX5_findRows (d + 3) [.inr 17, .inr 1, .inr 8, .inl (nI f)] M (fun _ M1 => FRF M M1 ∧ RWx w (rowA (cF F w f) (llO w W H) (lcO w W H)) M1) := by
  refine Call.of kX5_findRows.1 (Nat.le_of_ble_eq_true rfl) ?_
  refine G_aload_n dX5_findRows_0 rfl rfl ?_
  refine G_getI (v := (nI w)) dX5_findRows_1 fX5_50 rfl rfl hw ?_
  refine Gn_if_ne (tgt := 14) dX5_findRows_4 (by decide) (by omega) (fun h4 => ?_) (fun h4 => ?_)
  · refine G_aload_n dX5_findRows_14 rfl rfl ?_
    refine G_callVi (ν := uX0_width) (As := []) dX5_findRows_15 nX5_146 kX0_width rfl rfl rfl rfl rfl (Nat.le_of_ble_eq_true rfl) (c_width (o := 1) (v := 2) rfl rfl hgW) ?_
    rintro _ M8 ⟨rfl, e9⟩
    subst M8
    rw [show nI W = nI (lcO w W H) from congrArg nI (if_neg h4).symm]
    refine G_istore (L2 := [some (.inr 17), some (.inr 1), some (.inr 8), some (.inl (nI f)), some (.inl (nI ((lcO w W H)))), none, none, none, none, none]) dX5_findRows_18 (Nat.le_of_ble_eq_true rfl) rfl ?_
    refine G_aload_n dX5_findRows_20 rfl rfl ?_
    refine G_iconst (v := (nI 0)) dX5_findRows_21 (by decide) ?_
    refine G_put dX5_findRows_22 pX5_69 rfl rfl ?_
    refine G_iconst (v := (nI 0)) dX5_findRows_25 (by decide) ?_
    refine G_istore (L2 := [some (.inr 17), some (.inr 1), some (.inr 8), some (.inl (nI f)), some (.inl (nI ((lcO w W H)))), some (.inl (nI 0)), none, none, none, none]) dX5_findRows_26 (Nat.le_of_ble_eq_true rfl) rfl ?_
    refine l_findO hw w2 hgW hgH hW hH hF hFb hf _ 0 _ none none none none rfl (Nat.zero_le _) ?_ ?_
    · exact ⟨fun q h1 h2 => ms_q h1, fun j hj => by simp [ms, upd, hj]⟩
    · exact ⟨by simp [ms, upd, rowA], fun r hr => absurd hr (Nat.not_lt_zero _)⟩
  · refine G_aload_n dX5_findRows_7 rfl rfl ?_
    refine G_callVi (ν := uX0_height) (As := []) dX5_findRows_8 nX5_149 kX0_height rfl rfl rfl rfl rfl (Nat.le_of_ble_eq_true rfl) (c_height (o := 1) (v := 2) rfl rfl hgH) ?_
    rintro _ M8 ⟨rfl, e9⟩
    subst M8
    rw [show nI H = nI (lcO w W H) from congrArg nI (if_pos h4).symm]
    refine G_goto (tgt := 18) dX5_findRows_11 (by decide) ?_
    refine G_istore (L2 := [some (.inr 17), some (.inr 1), some (.inr 8), some (.inl (nI f)), some (.inl (nI ((lcO w W H)))), none, none, none, none, none]) dX5_findRows_18 (Nat.le_of_ble_eq_true rfl) rfl ?_
    refine G_aload_n dX5_findRows_20 rfl rfl ?_
    refine G_iconst (v := (nI 0)) dX5_findRows_21 (by decide) ?_
    refine G_put dX5_findRows_22 pX5_69 rfl rfl ?_
    refine G_iconst (v := (nI 0)) dX5_findRows_25 (by decide) ?_
    refine G_istore (L2 := [some (.inr 17), some (.inr 1), some (.inr 8), some (.inl (nI f)), some (.inl (nI ((lcO w W H)))), some (.inl (nI 0)), none, none, none, none]) dX5_findRows_26 (Nat.le_of_ble_eq_true rfl) rfl ?_
    refine l_findO hw w2 hgW hgH hW hH hF hFb hf _ 0 _ none none none none rfl (Nat.zero_le _) ?_ ?_
    · exact ⟨fun q h1 h2 => ms_q h1, fun j hj => by simp [ms, upd, hj]⟩
    · exact ⟨by simp [ms, upd, rowA], fun r hr => absurd hr (Nat.not_lt_zero _)⟩
noncomputable def rwS (F : Nat → Option Nat) (w f W H : Nat) : RS := rowA (cF F w f) (llO w W H) (lcO w W H)
theorem rwS_RI {F : Nat → Option Nat} {w f W H : Nat} : RI (cF F w f) (llO w W H) (lcO w W H) 0 (rwS F w f W H) := RI_A _
theorem rwS_RB {F : Nat → Option Nat} {w f W H : Nat} (hW : W ≤ 8) (hH : H ≤ 6) : RB (rwS F w f W H) := by
  obtain ⟨h1, h2, h3, h4⟩ := rwS_RI (F := F) (w := w) (f := f) (W := W) (H := H)
  have e : llO w W H * lcO w W H ≤ 48 := by
    unfold llO lcO
    split
    · exact Nat.mul_le_mul hW hH
    · have := Nat.mul_le_mul hH hW
      omega
  have e2 : llO w W H ≤ 8 ∧ lcO w W H ≤ 8 := by unfold llO lcO; split <;> omega
  refine ⟨by omega, fun r hr => ?_⟩
  obtain ⟨x1, x2, x3, x4, x5⟩ := h2 r hr
  omega
noncomputable def psS (s : RS) : PS := parS (prd s) s.1
/-- what Sewing holds, laid for field f and direction w, with greatest stitch length m -/
def SWx (F : Nat → Option Nat) (w f W H m : Nat) (M : Mem) : Prop := M 17 11 = nI w ∧ M 17 12 = nI m ∧ RWx w (rwS F w f W H) M ∧ PRx (rwS F w f W H).1 (psS (rwS F w f W H)) M
theorem c_lay {d m w f W H : Nat} {F : Nat → Option Nat} {M : Mem} (w2 : w < 2) (hgW : M 2 0 = nI W) (hgH : M 2 1 = nI H) (hgm : M 2 2 = nI m) (hW : W ≤ 8) (hH : H ≤ 6) (hF : ∀ q, q < 48 → M 12 q = oI (F q)) (hFb : ∀ q x, F q = some x → x < 48) (hf : f < 48) : Call l α D cA uX5_lay (d + 4) [.inr 17, .inr 1, .inr 8, .inl (nI f), .inl (nI w)] M (fun _ M1 => FRS M M1 ∧ SWx F w f W H m M1) := by
  refine Call.of kX5_lay.1 (Nat.le_of_ble_eq_true rfl) ?_
  refine G_aload_n dX5_lay_0 rfl rfl ?_
  refine G_iload dX5_lay_1 rfl ?_
  refine G_put dX5_lay_3 pX5_50 rfl rfl ?_
  refine G_aload_n dX5_lay_6 rfl rfl ?_
  refine G_aload_n dX5_lay_7 rfl rfl ?_
  refine G_callVi (ν := uX0_most) (As := []) dX5_lay_8 nX5_54 kX0_most rfl rfl rfl rfl rfl (Nat.le_of_ble_eq_true rfl) (c_most (o := 1) (v := 2) (x := nI m) rfl rfl (by simp [ms]; exact hgm)) ?_
  rintro _ M8 ⟨rfl, e9⟩
  subst M8
  refine G_put dX5_lay_11 pX5_60 rfl rfl ?_
  refine G_aload_n dX5_lay_14 rfl rfl ?_
  refine G_aload_n dX5_lay_15 rfl rfl ?_
  refine G_aload_n dX5_lay_16 rfl rfl ?_
  refine G_iload_n dX5_lay_17 rfl rfl ?_
  refine G_callVv (ν := uX5_findRows) (As := [.inr 1, .inr 8, .inl (nI f)]) dX5_lay_18 nX5_62 kX5_findRows rfl rfl rfl rfl rfl (Nat.le_of_ble_eq_true rfl) (c_find (w := w) (by simp [ms, upd]) w2 (by simp [ms]; exact hgW) (by simp [ms]; exact hgH) hW hH (fun q hq => by simp [ms]; exact hF q hq) hFb hf) ?_
  rintro _ M8 ⟨hF8, hR8⟩
  refine G_aload_n dX5_lay_21 rfl rfl ?_
  refine G_callVv (ν := uX5_joinRows) (As := []) dX5_lay_22 nX5_66 kX5_joinRows rfl rfl rfl rfl rfl (Nat.le_of_ble_eq_true rfl) (c_join (s := rwS F w f W H) hR8 (rwS_RB hW hH) (rwS_RI).2.2.1) ?_
  rintro _ M9 ⟨hF9, hP9⟩
  refine G_vret dX5_lay_25 rfl ?_
  refine ⟨fun q h1 h2 => ?_, ?_, ?_, RWx_J hR8 hF9, hP9⟩
  · rw [hF9.1 q h1 (by omega), hF8.1 q h1 (by omega)]
    simp [ms, h1]
  · rw [hF9.2 11 (by decide), hF8.2 11 (by decide)]
    simp [ms, upd]
  · rw [hF9.2 12 (by decide), hF8.2 12 (by decide)]
    simp [ms, upd]
end P17
