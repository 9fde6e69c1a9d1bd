/-! The reference: the order of sewing -/
section P39
variable {l : Launch} {α : Nat → Nat} {D : va_G} {cA : Nat → ClassId}
theorem or_I (a b : Nat) : nI a ||| nI b = nI (a ||| b) := by
  apply Int32.toBitVec_inj.mp
  show BitVec.ofNat 32 a ||| BitVec.ofNat 32 b = BitVec.ofNat 32 (a ||| b)
  apply BitVec.eq_of_getLsbD_eq
  intro i hi
  rw [BitVec.getLsbD_or, BitVec.getLsbD_ofNat, BitVec.getLsbD_ofNat, BitVec.getLsbD_ofNat, Nat.testBit_or]
  simp [hi]
theorem shl_I : ∀ f, f < 16 → nI 1 <<< (nI f &&& 31) = nI (2 ^ f) := by decide +kernel
theorem smod_I : ∀ f, f < 16 → ((nI f &&& 31).toBitVec.smod 32).toNat = f := by decide +kernel
theorem shr_I {s f : Nat} (hs : s < 2 ^ 31) (hf : f < 16) : nI s >>> (nI f &&& 31) = nI (s / 2 ^ f) := pk_shrN hs _ f (smod_I f hf)
theorem and1_I {n : Nat} (h : n < 2 ^ 32) : nI n &&& nI 1 = nI (n % 2) := pk_andN h 1 (by decide)
theorem bit_d {s f : Nat} : s / 2 ^ f % 2 = 0 ↔ s.testBit f = false := by
  rw [Nat.testBit_eq_decide_div_mod_eq, decide_eq_false_iff_not]
  omega
theorem sub_I {a s : Nat} (ha : a < 2 ^ 31) (hs : s < 2 ^ 31) : nI a &&& (nI s ^^^ (-1)) = 0 ↔ ∀ x, a.testBit x = true → s.testBit x = true := by
  have e : nI a &&& (nI s ^^^ (-1)) = 0 ↔ ∀ i, i < 32 → (a.testBit i && !s.testBit i) = false := by
    rw [← Int32.toBitVec_inj]
    show BitVec.ofNat 32 a &&& (BitVec.ofNat 32 s ^^^ BitVec.allOnes 32) = 0#32 ↔ _
    constructor
    · intro h i hi
      have := congrArg (fun v : BitVec 32 => v.getLsbD i) h
      simp only [BitVec.getLsbD_and, BitVec.getLsbD_xor, BitVec.getLsbD_ofNat, BitVec.getLsbD_allOnes, BitVec.getLsbD_zero, hi, decide_true, Bool.true_and, Bool.xor_true] at this
      exact this.trans (Nat.zero_testBit i)
    · intro h
      apply BitVec.eq_of_getLsbD_eq
      intro i hi
      simp only [BitVec.getLsbD_and, BitVec.getLsbD_xor, BitVec.getLsbD_ofNat, BitVec.getLsbD_allOnes, BitVec.getLsbD_zero, hi, decide_true, Bool.true_and, Bool.xor_true]
      exact (h i hi).trans (Nat.zero_testBit i).symm
  rw [e]
  constructor
  · intro h x hx
    rcases Nat.lt_or_ge x 32 with z | z
    · have := h x z
      rw [hx] at this
      cases hq : s.testBit x with
      | true => rfl
      | false => rw [hq] at this; cases this
    · have := Nat.testBit_lt_two_pow (Nat.lt_of_lt_of_le ha (Nat.pow_le_pow_right (by decide) (show 31 ≤ x by omega)))
      rw [this] at hx
      cases hx
  · intro h i hi
    cases hq : a.testBit i with
    | false => rfl
    | true => rw [h i hq]; rfl
theorem neg1_I {s : Nat} : nI s + (-1) = nI s - nI 1 := by
  rw [Int32.sub_eq_add_neg]
  rfl
theorem neg_I {x : Nat} (hx : x < 2 ^ 30) : nI x - nI 1 < 0 ↔ x = 0 := by
  rw [Int32.lt_iff_toInt_lt]
  have e : (nI x - nI 1).toInt = (x : Int) - 1 := by
    rw [fb_subI] <;> rw [nI_toInt (by omega), nI_toInt (by decide)] <;> omega
  rw [e]
  show (x : Int) - 1 < 0 ↔ _
  omega
def R7 (M M1 : Mem) : Prop := ∀ q, (q < 71 ∨ 73 < q) → M1 q = M q
theorem R7_Y {M M1 : Mem} (h : R7 M M1) : FY M M1 := ⟨fun q a b => h q (by omega), fun j _ => by rw [h 50 (by decide)]⟩
theorem R7_s {g : Nat → Nat} {M M1 : Mem} (h : R7 M M1) (hs : hS g (M 51)) : hS g (M1 51) := by rw [h 51 (by decide)]; exact hs
theorem R7_O {g : Nat → Nat} {M M1 : Mem} (h : R7 M M1) (hO : FOg g M) : FOg g M1 := by
  unfold FOg
  rw [h 58 (by decide), h 50 (by decide)]
  exact hO
theorem R7_ms {M M1 : Mem} {o k : Nat} {v : Int32} (h : R7 M M1) (h1 : 71 ≤ o) (h2 : o ≤ 73) : R7 M (ms M1 o k v) := fun q hq => by rw [ms_q (by omega)]; exact h q hq
/-- colours and masks are laid -/
def OM (g : Nat → Nat) (M : Mem) : Prop := (∀ f, f < labN g → M 72 f = nI (col g f)) ∧ ∀ f, f < labN g → M 71 f = nI (ah g f)
def TM (g : Nat → Nat) (T : Nat → Nat → Nat) (lo : Nat) (M : Mem) : Prop := ∀ s, lo ≤ s → s < 2 ^ labN g → ∀ last, last < 4 → M 73 (4 * s + last) = nI (T s last)
theorem p2_10 {n : Nat} (h : n ≤ 10) : 2 ^ n ≤ 1024 := Nat.pow_le_pow_right (by decide) h
theorem ah_lt {g : Nat → Nat} {f : Nat} (h : labN g ≤ 10) : ah g f < 1024 := Nat.lt_of_lt_of_le (ahM_lt _) (p2_10 h)
theorem lst_1000 {g : Nat → Nat} {T : Nat → Nat → Nat} {s last : Nat} (k : Nat) : lst g T s last k ≤ 1000 := Nat.le_trans (lst_0 k) (by rw [lst]; split <;> omega)
theorem T_1000 {g : Nat → Nat} {T : Nat → Nat → Nat} (hT : DP g T) {s last : Nat} (hs : s < 2 ^ labN g) (hl : last < 4) : T s last ≤ 1000 := by rw [hT s hs last hl]; exact lst_1000 _
theorem wfd_1001 {g : Nat → Nat} (hk : gok g) {T : Nat → Nat → Nat} (hT : DP g T) {s last f : Nat} (hs : s < 2 ^ labN g) (hf : f < labN g) : wfd g T s last f ≤ 1001 := by
  have hc := col_in hk hf
  have := T_1000 hT (or_lt hs hf) (show col g f < 4 by omega)
  unfold wfd
  split <;> omega
theorem y_mayCome {d s f : Nat} {g : Nat → Nat} {M : Mem} (hn : labN g ≤ 10) (hOM : OM g M) (hss : s < 2 ^ labN g) (hf : f < labN g) : Call l α D cA uX10_mayCome d [.inr 50, .inl (nI s), .inl (nI f)] M (fun r M1 => r = .inl (bI (dec (mayc g s f))) ∧ M1 = M) := by
  refine Call.of kX10_mayCome.1 (Nat.le_of_ble_eq_true rfl) ?_
  have hp := p2_10 hn
  have hal := ah_lt (f := f) hn
  refine G_iload_n dX10_mayCome_0 rfl rfl ?_
  refine G_iload_n dX10_mayCome_1 rfl rfl ?_
  refine G_ishr (v := (nI (s / 2 ^ f))) dX10_mayCome_2 (shr_I (by omega) (by omega)) ?_
  have hdv : s / 2 ^ f ≤ s := Nat.div_le_self _ _
  refine G_iconst (v := (nI 1)) dX10_mayCome_3 (by decide) ?_
  refine G_iand (v := (nI (s / 2 ^ f % 2))) dX10_mayCome_4 (and1_I (by omega)) ?_
  refine Gn_if_ne (tgt := 25) dX10_mayCome_5 (by decide) (by omega) (fun h5 => ?_) (fun h5 => ?_)
  · refine G_iconst (v := (nI 0)) dX10_mayCome_25 (by decide) ?_
    refine G_iret dX10_mayCome_26 rfl (by decide) ?_
    exact ⟨by rw [bI_df (P := mayc g s f) (fun q => h5 (bit_d.mpr q.1))], rfl⟩
  · refine G_aload_n dX10_mayCome_8 rfl rfl ?_
    refine G_getR (j := 71) dX10_mayCome_9 fX10_72 rfl rfl ?_
    refine G_iload_n dX10_mayCome_12 rfl rfl ?_
    refine G_iald (k := f) (v := (nI (ah g f))) dX10_mayCome_13 rfl (vp_in_nI (by omega) (by omega)) (nI_clamp (by omega)) (hOM.2 f hf) ?_
    refine G_iload_n dX10_mayCome_14 rfl rfl ?_
    refine G_iconst (v := ((-1))) dX10_mayCome_15 (by decide) ?_
    refine G_ixor (v := ((nI s) ^^^ ((-1)))) dX10_mayCome_16 rfl ?_
    refine G_iand (v := ((nI (ah g f)) &&& ((nI s) ^^^ ((-1))))) dX10_mayCome_17 rfl ?_
    refine G_if_ne (tgt := 25) dX10_mayCome_18 (by decide) (fun h18 => ?_) (fun h18 => ?_)
    · refine G_iconst (v := (nI 0)) dX10_mayCome_25 (by decide) ?_
      refine G_iret dX10_mayCome_26 rfl (by decide) ?_
      exact ⟨by rw [bI_df (P := mayc g s f) (fun q => h18 ((sub_I (by omega) (by omega)).mpr q.2))], rfl⟩
    · refine G_iconst (v := (nI 1)) dX10_mayCome_21 (by decide) ?_
      refine G_goto (tgt := 26) dX10_mayCome_22 (by decide) ?_
      refine G_iret dX10_mayCome_26 rfl (by decide) ?_
      exact ⟨by rw [bI_dt (P := mayc g s f) ⟨bit_d.mp h5, (sub_I (by omega) (by omega)).mp h18⟩], rfl⟩
theorem y_withField {d s f last : Nat} {g : Nat → Nat} {T : Nat → Nat → Nat} {M : Mem} (hk : gok g) (hT : DP g T) (hn : labN g ≤ 10) (hOM : OM g M) (hss : s < 2 ^ labN g) (hf : f < labN g) (hl : last < 4) (hTM : M 73 (4 * (s ||| 2 ^ f) + col g f) = nI (T (s ||| 2 ^ f) (col g f))) : Call l α D cA uX10_withField d [.inr 50, .inl (nI s), .inl (nI last), .inl (nI f)] M (fun r M1 => r = .inl (nI (wfd g T s last f)) ∧ M1 = M) := by
  refine Call.of kX10_withField.1 (Nat.le_of_ble_eq_true rfl) ?_
  have hp := p2_10 hn
  have hc := col_in hk hf
  have hor := or_lt hss hf
  refine G_aload_n dX10_withField_0 rfl rfl ?_
  refine G_getR (j := 73) dX10_withField_1 fX10_78 rfl rfl ?_
  refine G_iconst (v := (nI 4)) dX10_withField_4 (by decide) ?_
  refine G_iload_n dX10_withField_5 rfl rfl ?_
  refine G_iconst (v := (nI 1)) dX10_withField_6 (by decide) ?_
  refine G_iload_n dX10_withField_7 rfl rfl ?_
  refine G_ishl (v := (nI (2 ^ f))) dX10_withField_8 (shl_I f (by omega)) ?_
  refine G_ior (v := (nI (s ||| 2 ^ f))) dX10_withField_9 (or_I _ _) ?_
  refine G_imul (v := (nI (4 * (s ||| 2 ^ f)))) dX10_withField_10 (pk_mul _ _) ?_
  refine G_aload_n dX10_withField_11 rfl rfl ?_
  refine G_getR (j := 72) dX10_withField_12 fX10_75 rfl rfl ?_
  refine G_iload_n dX10_withField_15 rfl rfl ?_
  refine G_iald (k := f) (v := (nI (col g f))) dX10_withField_16 rfl (vp_in_nI (by omega) (by omega)) (nI_clamp (by omega)) (hOM.1 f hf) ?_
  refine G_iadd (v := (nI ((4 * (s ||| 2 ^ f)) + (col g f)))) dX10_withField_17 (nI_add _ _) ?_
  refine G_iald (k := (4 * (s ||| 2 ^ f)) + (col g f)) (v := (nI (T (s ||| 2 ^ f) (col g f)))) dX10_withField_18 rfl (vp_in_nI (by omega) (by omega)) (nI_clamp (by omega)) hTM ?_
  refine G_iload_n dX10_withField_19 rfl rfl ?_
  refine Gn_if_eq (tgt := 37) dX10_withField_20 (by decide) (by omega) (fun h20 => ?_) (fun h20 => ?_)
  · refine G_iconst (v := (nI 0)) dX10_withField_37 (by decide) ?_
    refine G_iadd (v := (nI ((T (s ||| 2 ^ f) (col g f)) + 0))) dX10_withField_38 (nI_add _ _) ?_
    refine G_iret dX10_withField_39 rfl rfl ?_
    exact ⟨by rw [wfd, if_neg (fun q => q.1 h20)], rfl⟩
  · refine G_iload_n dX10_withField_23 rfl rfl ?_
    refine G_aload_n dX10_withField_24 rfl rfl ?_
    refine G_getR (j := 72) dX10_withField_25 fX10_75 rfl rfl ?_
    refine G_iload_n dX10_withField_28 rfl rfl ?_
    refine G_iald (k := f) (v := (nI (col g f))) dX10_withField_29 rfl (vp_in_nI (by omega) (by omega)) (nI_clamp (by omega)) (hOM.1 f hf) ?_
    refine Gn_icmp_eq (tgt := 37) dX10_withField_30 (by decide) (by omega) (by omega) (fun h30 => ?_) (fun h30 => ?_)
    · refine G_iconst (v := (nI 0)) dX10_withField_37 (by decide) ?_
      refine G_iadd (v := (nI ((T (s ||| 2 ^ f) (col g f)) + 0))) dX10_withField_38 (nI_add _ _) ?_
      refine G_iret dX10_withField_39 rfl rfl ?_
      exact ⟨by rw [wfd, if_neg (fun q => q.2 h30)], rfl⟩
    · refine G_iconst (v := (nI 1)) dX10_withField_33 (by decide) ?_
      refine G_goto (tgt := 38) dX10_withField_34 (by decide) ?_
      refine G_iadd (v := (nI ((T (s ||| 2 ^ f) (col g f)) + 1))) dX10_withField_38 (nI_add _ _) ?_
      refine G_iret dX10_withField_39 rfl rfl ?_
      exact ⟨by rw [wfd, if_pos ⟨h20, h30⟩], rfl⟩
theorem ly_ahI {d : Nat} {g : Nat → Nat} {M : Mem} (hs : hS g (M 51)) (hk : gok g) (hO : FOg g M) (hn : labN g ≤ 10) {f : Nat} (hf : f < labN g) (out : ∀ (M1 : Mem) (x2 x3 : Option AV), R7 M M1 → (∀ y, y < labN g → M1 72 y = nI (col g y)) → (∀ y, y < f + 1 → M1 71 y = nI (ah g y)) → G l α D cA uX10_laysAhead none (d + 2) (fun _ M1 => R7 M M1 ∧ OM g M1) 126 [some (.inr 50), some (.inl (nI f)), x2, x3] [] M1) : ∀ (k x : Nat) (M1 : Mem) (x3 : Option AV), labN g - x = k → x ≤ labN g → R7 M M1 → (∀ y, y < labN g → M1 72 y = nI (col g y)) → (∀ y, y < f → M1 71 y = nI (ah g y)) → M1 71 f = nI (ahM g f x) → G l α D cA uX10_laysAhead none (d + 2) (fun _ M1 => R7 M M1 ∧ OM g M1) 46 [some (.inr 50), some (.inl (nI f)), some (.inl (nI x)), x3] [] M1 := by
  intro k
  induction k using Nat.strongRecOn with
  | _ k ih => ?_
  intro x M1 x3 hkk hx hR hC hA hcur
  have hcf := col_in hk hf
  have h9 := gok_9 hk
  refine G_iload_n dX10_laysAhead_46 rfl rfl ?_
  refine G_aload_n dX10_laysAhead_47 rfl rfl ?_
  refine G_getI (v := (nI (labN g))) dX10_laysAhead_48 fX10_160 rfl rfl (R7_O hR hO).2 ?_
  refine Gn_icmp_ge (tgt := 126) dX10_laysAhead_51 (by decide) (by omega) (by omega) (fun h51 => ?_) (fun h51 => ?_)
  · have e : x = labN g := by omega
    subst e
    exact out M1 _ _ hR hC (fun y hy => by
      rcases (show y < f ∨ y = f by omega) with z | z
      · exact hA y z
      · rw [z]; exact hcur)
  · have hcx := col_in hk (show x < labN g by omega)
    have r1 := h9 (8 + col g x) (by omega)
    have r2 := h9 (8 + col g f) (by omega)
    refine G_aload_n dX10_laysAhead_54 rfl rfl ?_
    refine G_getR (j := 51) dX10_laysAhead_55 fX10_7 rfl rfl ?_
    refine G_bipush (v := (nI 8)) dX10_laysAhead_58 (by decide) ?_
    refine G_aload_n dX10_laysAhead_60 rfl rfl ?_
    refine G_getR (j := 72) dX10_laysAhead_61 fX10_75 rfl rfl ?_
    refine G_iload_n dX10_laysAhead_64 rfl rfl ?_
    refine G_iald (k := x) (v := (nI (col g x))) dX10_laysAhead_65 rfl (vp_in_nI (by omega) (by omega)) (nI_clamp (by omega)) (hC x (by omega)) ?_
    refine G_iadd (v := (nI (8 + (col g x)))) dX10_laysAhead_66 (nI_add _ _) ?_
    refine G_iald (k := 8 + (col g x)) (v := (nI (g (8 + col g x)))) dX10_laysAhead_67 rfl (vp_in_nI (by omega) (by omega)) (nI_clamp (by omega)) ((R7_s hR hs).1 _ (by omega)) ?_
    refine G_aload_n dX10_laysAhead_68 rfl rfl ?_
    refine G_getR (j := 51) dX10_laysAhead_69 fX10_7 rfl rfl ?_
    refine G_bipush (v := (nI 8)) dX10_laysAhead_72 (by decide) ?_
    refine G_aload_n dX10_laysAhead_74 rfl rfl ?_
    refine G_getR (j := 72) dX10_laysAhead_75 fX10_75 rfl rfl ?_
    refine G_iload_n dX10_laysAhead_78 rfl rfl ?_
    refine G_iald (k := f) (v := (nI (col g f))) dX10_laysAhead_79 rfl (vp_in_nI (by omega) (by omega)) (nI_clamp (by omega)) (hC f hf) ?_
    refine G_iadd (v := (nI (8 + (col g f)))) dX10_laysAhead_80 (nI_add _ _) ?_
    refine G_iald (k := 8 + (col g f)) (v := (nI (g (8 + col g f)))) dX10_laysAhead_81 rfl (vp_in_nI (by omega) (by omega)) (nI_clamp (by omega)) ((R7_s hR hs).1 _ (by omega)) ?_
    refine Gn_icmp_ge (tgt := 98) dX10_laysAhead_82 (by decide) (by omega) (by omega) (fun h82 => ?_) (fun h82 => ?_)
    · refine G_iconst (v := (nI 0)) dX10_laysAhead_98 (by decide) ?_
      refine G_istore_n (L2 := [some (.inr 50), some (.inl (nI f)), some (.inl (nI x)), some (.inl (nI 0))]) dX10_laysAhead_99 rfl (Nat.le_of_ble_eq_true rfl) rfl ?_
      refine G_aload_n dX10_laysAhead_100 rfl rfl ?_
      refine G_getR (j := 71) dX10_laysAhead_101 fX10_72 rfl rfl ?_
      refine G_iload_n dX10_laysAhead_104 rfl rfl ?_
      refine G_dup2 dX10_laysAhead_105 ?_
      refine G_iald (k := f) (v := (nI (ahM g f x))) dX10_laysAhead_106 rfl (vp_in_nI (by omega) (by omega)) (nI_clamp (by omega)) hcur ?_
      refine G_iload_n dX10_laysAhead_107 rfl rfl ?_
      refine Gn_if_eq (tgt := 117) dX10_laysAhead_108 (by decide) (by omega) (fun h108 => ?_) (fun h108 => ?_)
      · refine G_iconst (v := (nI 0)) dX10_laysAhead_117 (by decide) ?_
        refine G_ior (v := (nI (ahM g f (x + 1)))) dX10_laysAhead_118 (by rw [or_I, Nat.or_zero, ahM, if_neg (fun q => absurd (dec_iff.mp q).1 (by omega)), Nat.or_zero]) ?_
        refine G_iast (k := f) (v := (nI (ahM g f (x + 1)))) dX10_laysAhead_119 rfl (vp_in_nI (by omega) (by omega)) (nI_clamp (by omega)) rfl ?_
        refine G_iinc (v := (nI (x + 1))) (L2 := [some (.inr 50), some (.inl (nI f)), some (.inl (nI (x + 1))), some (.inl (nI 0))]) dX10_laysAhead_120 rfl (nI_1 _) rfl ?_
        refine G_goto (tgt := 46) dX10_laysAhead_123 (by decide) ?_
        refine ih (labN g - (x + 1)) (by omega) (x + 1) _ _ rfl (by omega) (R7_ms hR (by decide) (by decide)) (fun y hy => by rw [ms_q (by decide)]; exact hC y hy) (fun y hy => by rw [ms_o, upd_n (by omega)]; exact hA y hy) ?_
        rw [ms_o]
        exact upd_k
      · omega
    · refine G_aload_n dX10_laysAhead_85 rfl rfl ?_
      refine G_iload_n dX10_laysAhead_86 rfl rfl ?_
      refine G_iload_n dX10_laysAhead_87 rfl rfl ?_
      refine G_callVi (ν := uX10_touch) (As := [.inl (nI f), .inl (nI x)]) dX10_laysAhead_88 nX10_225 kX10_touch rfl rfl rfl rfl rfl (Nat.le_of_ble_eq_true rfl) (y_touch (R7_s hR hs) hk (R7_O hR hO) hf (by omega)) ?_
      rintro _ M8 ⟨rfl, e9⟩
      subst M8
      refine Gb_if_eq (tgt := 98) dX10_laysAhead_91 (by decide) (fun h91 => ?_) (fun h91 => ?_)
      · refine G_iconst (v := (nI 0)) dX10_laysAhead_98 (by decide) ?_
        refine G_istore_n (L2 := [some (.inr 50), some (.inl (nI f)), some (.inl (nI x)), some (.inl (nI 0))]) dX10_laysAhead_99 rfl (Nat.le_of_ble_eq_true rfl) rfl ?_
        refine G_aload_n dX10_laysAhead_100 rfl rfl ?_
        refine G_getR (j := 71) dX10_laysAhead_101 fX10_72 rfl rfl ?_
        refine G_iload_n dX10_laysAhead_104 rfl rfl ?_
        refine G_dup2 dX10_laysAhead_105 ?_
        refine G_iald (k := f) (v := (nI (ahM g f x))) dX10_laysAhead_106 rfl (vp_in_nI (by omega) (by omega)) (nI_clamp (by omega)) hcur ?_
        refine G_iload_n dX10_laysAhead_107 rfl rfl ?_
        refine Gn_if_eq (tgt := 117) dX10_laysAhead_108 (by decide) (by omega) (fun h108 => ?_) (fun h108 => ?_)
        · refine G_iconst (v := (nI 0)) dX10_laysAhead_117 (by decide) ?_
          refine G_ior (v := (nI (ahM g f (x + 1)))) dX10_laysAhead_118 (by rw [or_I, Nat.or_zero, ahM, if_neg (fun q => dec_niff.mp h91 (dec_iff.mp q).2), Nat.or_zero]) ?_
          refine G_iast (k := f) (v := (nI (ahM g f (x + 1)))) dX10_laysAhead_119 rfl (vp_in_nI (by omega) (by omega)) (nI_clamp (by omega)) rfl ?_
          refine G_iinc (v := (nI (x + 1))) (L2 := [some (.inr 50), some (.inl (nI f)), some (.inl (nI (x + 1))), some (.inl (nI 0))]) dX10_laysAhead_120 rfl (nI_1 _) rfl ?_
          refine G_goto (tgt := 46) dX10_laysAhead_123 (by decide) ?_
          refine ih (labN g - (x + 1)) (by omega) (x + 1) _ _ rfl (by omega) (R7_ms hR (by decide) (by decide)) (fun y hy => by rw [ms_q (by decide)]; exact hC y hy) (fun y hy => by rw [ms_o, upd_n (by omega)]; exact hA y hy) ?_
          rw [ms_o]
          exact upd_k
        · omega
      · refine G_iconst (v := (nI 1)) dX10_laysAhead_94 (by decide) ?_
        refine G_goto (tgt := 99) dX10_laysAhead_95 (by decide) ?_
        refine G_istore_n (L2 := [some (.inr 50), some (.inl (nI f)), some (.inl (nI x)), some (.inl (nI 1))]) dX10_laysAhead_99 rfl (Nat.le_of_ble_eq_true rfl) rfl ?_
        refine G_aload_n dX10_laysAhead_100 rfl rfl ?_
        refine G_getR (j := 71) dX10_laysAhead_101 fX10_72 rfl rfl ?_
        refine G_iload_n dX10_laysAhead_104 rfl rfl ?_
        refine G_dup2 dX10_laysAhead_105 ?_
        refine G_iald (k := f) (v := (nI (ahM g f x))) dX10_laysAhead_106 rfl (vp_in_nI (by omega) (by omega)) (nI_clamp (by omega)) hcur ?_
        refine G_iload_n dX10_laysAhead_107 rfl rfl ?_
        refine Gn_if_eq (tgt := 117) dX10_laysAhead_108 (by decide) (by omega) (fun h108 => ?_) (fun h108 => ?_)
        · omega
        · refine G_iconst (v := (nI 1)) dX10_laysAhead_111 (by decide) ?_
          refine G_iload_n dX10_laysAhead_112 rfl rfl ?_
          refine G_ishl (v := (nI (2 ^ x))) dX10_laysAhead_113 (shl_I x (by omega)) ?_
          refine G_goto (tgt := 118) dX10_laysAhead_114 (by decide) ?_
          refine G_ior (v := (nI (ahM g f (x + 1)))) dX10_laysAhead_118 (by rw [or_I, ahM, if_pos (dec_t ⟨h82, dec_iff.mp h91⟩)]) ?_
          refine G_iast (k := f) (v := (nI (ahM g f (x + 1)))) dX10_laysAhead_119 rfl (vp_in_nI (by omega) (by omega)) (nI_clamp (by omega)) rfl ?_
          refine G_iinc (v := (nI (x + 1))) (L2 := [some (.inr 50), some (.inl (nI f)), some (.inl (nI (x + 1))), some (.inl (nI 1))]) dX10_laysAhead_120 rfl (nI_1 _) rfl ?_
          refine G_goto (tgt := 46) dX10_laysAhead_123 (by decide) ?_
          refine ih (labN g - (x + 1)) (by omega) (x + 1) _ _ rfl (by omega) (R7_ms hR (by decide) (by decide)) (fun y hy => by rw [ms_q (by decide)]; exact hC y hy) (fun y hy => by rw [ms_o, upd_n (by omega)]; exact hA y hy) ?_
          rw [ms_o]
          exact upd_k
theorem ly_ahO {d : Nat} {g : Nat → Nat} {M : Mem} (hs : hS g (M 51)) (hk : gok g) (hO : FOg g M) (hn : labN g ≤ 10) : ∀ (k f : Nat) (M1 : Mem) (x2 x3 : Option AV), labN g - f = k → f ≤ labN g → R7 M M1 → (∀ y, y < labN g → M1 72 y = nI (col g y)) → (∀ y, y < f → M1 71 y = nI (ah g y)) → G l α D cA uX10_laysAhead none (d + 2) (fun _ M1 => R7 M M1 ∧ OM g M1) 29 [some (.inr 50), some (.inl (nI f)), x2, x3] [] M1 := by
  intro k
  induction k using Nat.strongRecOn with
  | _ k ih => ?_
  intro f M1 x2 x3 hkk hf hR hC hA
  refine G_iload_n dX10_laysAhead_29 rfl rfl ?_
  refine G_aload_n dX10_laysAhead_30 rfl rfl ?_
  refine G_getI (v := (nI (labN g))) dX10_laysAhead_31 fX10_160 rfl rfl (R7_O hR hO).2 ?_
  refine Gn_icmp_ge (tgt := 132) dX10_laysAhead_34 (by decide) (by omega) (by omega) (fun h34 => ?_) (fun h34 => ?_)
  · refine G_vret dX10_laysAhead_132 rfl ?_
    have e : f = labN g := by omega
    subst e
    exact ⟨hR, hC, hA⟩
  · refine G_aload_n dX10_laysAhead_37 rfl rfl ?_
    refine G_getR (j := 71) dX10_laysAhead_38 fX10_72 rfl rfl ?_
    refine G_iload_n dX10_laysAhead_41 rfl rfl ?_
    refine G_iconst (v := (nI 0)) dX10_laysAhead_42 (by decide) ?_
    refine G_iast (k := f) (v := (nI 0)) dX10_laysAhead_43 rfl (vp_in_nI (by omega) (by omega)) (nI_clamp (by omega)) rfl ?_
    refine G_iconst (v := (nI 0)) dX10_laysAhead_44 (by decide) ?_
    refine G_istore_n (L2 := [some (.inr 50), some (.inl (nI f)), some (.inl (nI 0)), x3]) dX10_laysAhead_45 rfl (Nat.le_of_ble_eq_true rfl) rfl ?_
    refine ly_ahI hs hk hO hn (show f < labN g by omega) (fun M2 x2 x3 hR2 hC2 hA2 => ?_) _ 0 _ _ rfl (Nat.zero_le _) (R7_ms hR (by decide) (by decide)) (fun y hy => by rw [ms_q (by decide)]; exact hC y hy) (fun y hy => by rw [ms_o, upd_n (by omega)]; exact hA y hy) (by rw [ms_o]; exact upd_k)
    refine G_iinc (v := (nI (f + 1))) (L2 := [some (.inr 50), some (.inl (nI (f + 1))), x2, x3]) dX10_laysAhead_126 rfl (nI_1 _) rfl ?_
    refine G_goto (tgt := 29) dX10_laysAhead_129 (by decide) ?_
    exact ih (labN g - (f + 1)) (by omega) (f + 1) M2 _ _ rfl (by omega) hR2 hC2 hA2
theorem ly_ahC {d : Nat} {g : Nat → Nat} {M : Mem} (hs : hS g (M 51)) (hk : gok g) (hO : FOg g M) (hn : labN g ≤ 10) : ∀ (k f : Nat) (M1 : Mem), labN g - f = k → f ≤ labN g → R7 M M1 → (∀ y, y < f → M1 72 y = nI (col g y)) → G l α D cA uX10_laysAhead none (d + 2) (fun _ M1 => R7 M M1 ∧ OM g M1) 2 [some (.inr 50), some (.inl (nI f)), none, none] [] M1 := by
  intro k
  induction k using Nat.strongRecOn with
  | _ k ih => ?_
  intro f M1 hkk hf hR hC
  refine G_iload_n dX10_laysAhead_2 rfl rfl ?_
  refine G_aload_n dX10_laysAhead_3 rfl rfl ?_
  refine G_getI (v := (nI (labN g))) dX10_laysAhead_4 fX10_160 rfl rfl (R7_O hR hO).2 ?_
  refine Gn_icmp_ge (tgt := 27) dX10_laysAhead_7 (by decide) (by omega) (by omega) (fun h7 => ?_) (fun h7 => ?_)
  · refine G_iconst (v := (nI 0)) dX10_laysAhead_27 (by decide) ?_
    refine G_istore_n (L2 := [some (.inr 50), some (.inl (nI 0)), none, none]) dX10_laysAhead_28 rfl (Nat.le_of_ble_eq_true rfl) rfl ?_
    have e : f = labN g := by omega
    subst e
    exact ly_ahO hs hk hO hn _ 0 M1 _ _ rfl (Nat.zero_le _) hR hC (fun y hy => absurd hy (Nat.not_lt_zero _))
  · refine G_aload_n dX10_laysAhead_10 rfl rfl ?_
    refine G_getR (j := 72) dX10_laysAhead_11 fX10_75 rfl rfl ?_
    refine G_iload_n dX10_laysAhead_14 rfl rfl ?_
    refine G_aload_n dX10_laysAhead_15 rfl rfl ?_
    refine G_iload_n dX10_laysAhead_16 rfl rfl ?_
    refine G_callVi (ν := uX10_colourOf) (As := [.inl (nI f)]) dX10_laysAhead_17 nX10_218 kX10_colourOf rfl rfl rfl rfl rfl (Nat.le_of_ble_eq_true rfl) (y_colourOf (R7_s hR hs) hk (R7_O hR hO) (by omega)) ?_
    rintro _ M8 ⟨rfl, e9⟩
    subst M8
    refine G_iast (k := f) (v := (nI (col g f))) dX10_laysAhead_20 rfl (vp_in_nI (by omega) (by omega)) (nI_clamp (by omega)) rfl ?_
    refine G_iinc (v := (nI (f + 1))) (L2 := [some (.inr 50), some (.inl (nI (f + 1))), none, none]) dX10_laysAhead_21 rfl (nI_1 _) rfl ?_
    refine G_goto (tgt := 2) dX10_laysAhead_24 (by decide) ?_
    refine ih (labN g - (f + 1)) (by omega) (f + 1) _ rfl (by omega) (R7_ms hR (by decide) (by decide)) (fun y hy => ?_)
    rw [ms_o]
    by_cases e : y = f
    · subst e; exact upd_k
    · rw [upd_n e]; exact hC y (by omega)
theorem y_laysAhead {d : Nat} {g : Nat → Nat} {M : Mem} (hs : hS g (M 51)) (hk : gok g) (hO : FOg g M) (hn : labN g ≤ 10) : Call l α D cA uX10_laysAhead (d + 2) [.inr 50] M (fun _ M1 => R7 M M1 ∧ OM g M1) := by
  refine Call.of kX10_laysAhead.1 (Nat.le_of_ble_eq_true rfl) ?_
  refine G_iconst (v := (nI 0)) dX10_laysAhead_0 (by decide) ?_
  refine G_istore_n (L2 := [some (.inr 50), some (.inl (nI 0)), none, none]) dX10_laysAhead_1 rfl (Nat.le_of_ble_eq_true rfl) rfl ?_
  exact ly_ahC hs hk hO hn _ 0 M rfl (Nat.zero_le _) (fun _ _ => rfl) (fun y hy => absurd hy (Nat.not_lt_zero _))
theorem ly_chF {d : Nat} {g : Nat → Nat} {T : Nat → Nat → Nat} {M : Mem} (hk : gok g) (hT : DP g T) (hn : labN g ≤ 10) (hOM : OM g M) (hN : M 50 16 = nI (labN g)) {s last : Nat} {Q : AV → Mem → Prop} (hss : s < 2 ^ labN g) (hl : last < 4) (hTM : TM g T (s + 1) M) (out : ∀ x5 x6 : Option AV, G l α D cA uX10_laysChanges none (d + 1) Q 96 [some (.inr 50), some (.inl (nI (2 ^ labN g - 1))), some (.inl (nI s)), some (.inl (nI last)), some (.inl (nI (T s last))), x5, x6] [] M) : ∀ (k f : Nat) (x6 : Option AV), labN g - f = k → f ≤ labN g → G l α D cA uX10_laysChanges none (d + 1) Q 39 [some (.inr 50), some (.inl (nI (2 ^ labN g - 1))), some (.inl (nI s)), some (.inl (nI last)), some (.inl (nI (lst g T s last f))), some (.inl (nI f)), x6] [] M := by
  have hp := p2_10 hn
  intro k
  induction k using Nat.strongRecOn with
  | _ k ih => ?_
  intro f x6 hkk hf
  have hle := lst_1000 (g := g) (T := T) (s := s) (last := last) f
  refine G_iload dX10_laysChanges_39 rfl ?_
  refine G_aload_n dX10_laysChanges_41 rfl rfl ?_
  refine G_getI (v := (nI (labN g))) dX10_laysChanges_42 fX10_160 rfl rfl hN ?_
  refine Gn_icmp_ge (tgt := 96) dX10_laysChanges_45 (by decide) (by omega) (by omega) (fun h45 => ?_) (fun h45 => ?_)
  · have e : f = labN g := by omega
    subst e
    rw [← hT s hss last hl]
    exact out _ _
  · refine G_aload_n dX10_laysChanges_48 rfl rfl ?_
    refine G_iload_n dX10_laysChanges_49 rfl rfl ?_
    refine G_iload dX10_laysChanges_50 rfl ?_
    refine G_callVi (ν := uX10_mayCome) (As := [.inl (nI s), .inl (nI f)]) dX10_laysChanges_52 nX10_247 kX10_mayCome rfl rfl rfl rfl rfl (Nat.le_of_ble_eq_true rfl) (y_mayCome hn hOM hss (by omega)) ?_
    rintro _ M8 ⟨rfl, e9⟩
    subst M8
    refine Gb_if_eq (tgt := 69) dX10_laysChanges_55 (by decide) (fun h55 => ?_) (fun h55 => ?_)
    · refine G_sipush (v := (nI 1000)) dX10_laysChanges_69 (by decide) ?_
      refine G_istore (L2 := [some (.inr 50), some (.inl (nI (2 ^ labN g - 1))), some (.inl (nI s)), some (.inl (nI last)), some (.inl (nI (lst g T s last f))), some (.inl (nI f)), some (.inl (nI 1000))]) dX10_laysChanges_72 (Nat.le_of_ble_eq_true rfl) rfl ?_
      refine G_iload dX10_laysChanges_74 rfl ?_
      refine G_iload dX10_laysChanges_76 rfl ?_
      refine Gn_icmp_ge (tgt := 86) dX10_laysChanges_78 (by decide) (by omega) (by omega) (fun h78 => ?_) (fun h78 => ?_)
      · refine G_iload dX10_laysChanges_86 rfl ?_
        refine G_istore (L2 := [some (.inr 50), some (.inl (nI (2 ^ labN g - 1))), some (.inl (nI s)), some (.inl (nI last)), some (.inl (nI (lst g T s last f))), some (.inl (nI f)), some (.inl (nI 1000))]) dX10_laysChanges_88 (Nat.le_of_ble_eq_true rfl) rfl ?_
        refine G_iinc (v := (nI (f + 1))) (L2 := [some (.inr 50), some (.inl (nI (2 ^ labN g - 1))), some (.inl (nI s)), some (.inl (nI last)), some (.inl (nI (lst g T s last f))), some (.inl (nI (f + 1))), some (.inl (nI 1000))]) dX10_laysChanges_90 rfl (nI_1 _) rfl ?_
        refine G_goto (tgt := 39) dX10_laysChanges_93 (by decide) ?_
        rw [show nI (lst g T s last f) = nI (lst g T s last (f + 1)) by rw [lst_s, show its g T s last f = 1000 by rw [its, dec_f (dec_niff.mp h55), if_neg (show ¬ false = true by decide)], if_neg (by omega)]]
        exact ih (labN g - (f + 1)) (by omega) (f + 1) _ rfl (by omega)
      · omega
    · refine G_aload_n dX10_laysChanges_58 rfl rfl ?_
      refine G_iload_n dX10_laysChanges_59 rfl rfl ?_
      refine G_iload_n dX10_laysChanges_60 rfl rfl ?_
      refine G_iload dX10_laysChanges_61 rfl ?_
      refine G_callVi (ν := uX10_withField) (As := [.inl (nI s), .inl (nI last), .inl (nI f)]) dX10_laysChanges_63 nX10_250 kX10_withField rfl rfl rfl rfl rfl (Nat.le_of_ble_eq_true rfl) (y_withField hk hT hn hOM hss (by omega) hl (hTM _ (or_gt (dec_iff.mp h55).1) (or_lt hss (by omega)) _ (by have := col_in hk (show f < labN g by omega); omega))) ?_
      rintro _ M8 ⟨rfl, e9⟩
      subst M8
      have hwf := wfd_1001 (last := last) hk hT hss (show f < labN g by omega)
      refine G_goto (tgt := 72) dX10_laysChanges_66 (by decide) ?_
      refine G_istore (L2 := [some (.inr 50), some (.inl (nI (2 ^ labN g - 1))), some (.inl (nI s)), some (.inl (nI last)), some (.inl (nI (lst g T s last f))), some (.inl (nI f)), some (.inl (nI (wfd g T s last f)))]) dX10_laysChanges_72 (Nat.le_of_ble_eq_true rfl) rfl ?_
      refine G_iload dX10_laysChanges_74 rfl ?_
      refine G_iload dX10_laysChanges_76 rfl ?_
      refine Gn_icmp_ge (tgt := 86) dX10_laysChanges_78 (by decide) (by omega) (by omega) (fun h78 => ?_) (fun h78 => ?_)
      · refine G_iload dX10_laysChanges_86 rfl ?_
        refine G_istore (L2 := [some (.inr 50), some (.inl (nI (2 ^ labN g - 1))), some (.inl (nI s)), some (.inl (nI last)), some (.inl (nI (lst g T s last f))), some (.inl (nI f)), some (.inl (nI (wfd g T s last f)))]) dX10_laysChanges_88 (Nat.le_of_ble_eq_true rfl) rfl ?_
        refine G_iinc (v := (nI (f + 1))) (L2 := [some (.inr 50), some (.inl (nI (2 ^ labN g - 1))), some (.inl (nI s)), some (.inl (nI last)), some (.inl (nI (lst g T s last f))), some (.inl (nI (f + 1))), some (.inl (nI (wfd g T s last f)))]) dX10_laysChanges_90 rfl (nI_1 _) rfl ?_
        refine G_goto (tgt := 39) dX10_laysChanges_93 (by decide) ?_
        rw [show nI (lst g T s last f) = nI (lst g T s last (f + 1)) by rw [lst_s, show its g T s last f = wfd g T s last f by rw [its, h55, if_pos rfl], if_neg (by omega)]]
        exact ih (labN g - (f + 1)) (by omega) (f + 1) _ rfl (by omega)
      · refine G_iload dX10_laysChanges_81 rfl ?_
        refine G_goto (tgt := 88) dX10_laysChanges_83 (by decide) ?_
        refine G_istore (L2 := [some (.inr 50), some (.inl (nI (2 ^ labN g - 1))), some (.inl (nI s)), some (.inl (nI last)), some (.inl (nI (wfd g T s last f))), some (.inl (nI f)), some (.inl (nI (wfd g T s last f)))]) dX10_laysChanges_88 (Nat.le_of_ble_eq_true rfl) rfl ?_
        refine G_iinc (v := (nI (f + 1))) (L2 := [some (.inr 50), some (.inl (nI (2 ^ labN g - 1))), some (.inl (nI s)), some (.inl (nI last)), some (.inl (nI (wfd g T s last f))), some (.inl (nI (f + 1))), some (.inl (nI (wfd g T s last f)))]) dX10_laysChanges_90 rfl (nI_1 _) rfl ?_
        refine G_goto (tgt := 39) dX10_laysChanges_93 (by decide) ?_
        rw [show nI (wfd g T s last f) = nI (lst g T s last (f + 1)) by rw [lst_s, show its g T s last f = wfd g T s last f by rw [its, h55, if_pos rfl], if_pos (by omega)]]
        exact ih (labN g - (f + 1)) (by omega) (f + 1) _ rfl (by omega)
theorem OM_73 {g : Nat → Nat} {M M1 : Mem} (h : OM g M) (hR : ∀ q, q ≠ 73 → M1 q = M q) : OM g M1 := by
  unfold OM
  rw [hR 71 (by decide), hR 72 (by decide)]
  exact h
theorem TM_set {g : Nat → Nat} {T : Nat → Nat → Nat} {s last : Nat} {M : Mem} (h : TM g T (s + 1) M) (hl : last < 4) : TM g T (s + 1) (ms M 73 (4 * s + last) (nI (T s last))) := fun s' h1 h2 c hc => by
  rw [ms_o, upd_n (by omega)]
  exact h s' h1 h2 c hc
theorem ly_chS {d s last : Nat} {g : Nat → Nat} {T : Nat → Nat → Nat} {M1 : Mem} {x5 x6 : Option AV} {Q : AV → Mem → Prop} (hk : gok g) (hT : DP g T) (hn : labN g ≤ 10) (hss : s < 2 ^ labN g) (hl : last < 4) (out : G l α D cA uX10_laysChanges none (d + 1) Q 17 [some (.inr 50), some (.inl (nI (2 ^ labN g - 1))), some (.inl (nI s)), some (.inl (nI (last + 1))), some (.inl (nI (T s last))), x5, x6] [] (ms M1 73 (4 * s + last) (nI (T s last)))) : G l α D cA uX10_laysChanges none (d + 1) Q 96 [some (.inr 50), some (.inl (nI (2 ^ labN g - 1))), some (.inl (nI s)), some (.inl (nI last)), some (.inl (nI (T s last))), x5, x6] [] M1 := by
  have hp := p2_10 hn
  refine G_aload_n dX10_laysChanges_96 rfl rfl ?_
  refine G_getR (j := 73) dX10_laysChanges_97 fX10_78 rfl rfl ?_
  refine G_iconst (v := (nI 4)) dX10_laysChanges_100 (by decide) ?_
  refine G_iload_n dX10_laysChanges_101 rfl rfl ?_
  refine G_imul (v := (nI (4 * s))) dX10_laysChanges_102 (pk_mul _ _) ?_
  refine G_iload_n dX10_laysChanges_103 rfl rfl ?_
  refine G_iadd (v := (nI ((4 * s) + last))) dX10_laysChanges_104 (nI_add _ _) ?_
  refine G_iload dX10_laysChanges_105 rfl ?_
  refine G_iast (k := (4 * s) + last) (v := (nI (T s last))) dX10_laysChanges_107 rfl (vp_in_nI (by omega) (by omega)) (nI_clamp (by omega)) rfl ?_
  refine G_iinc (v := (nI (last + 1))) (L2 := [some (.inr 50), some (.inl (nI (2 ^ labN g - 1))), some (.inl (nI s)), some (.inl (nI (last + 1))), some (.inl (nI (T s last))), x5, x6]) dX10_laysChanges_108 rfl (nI_1 _) rfl ?_
  refine G_goto (tgt := 17) dX10_laysChanges_111 (by decide) ?_
  exact out
theorem ly_chL {d : Nat} {g : Nat → Nat} {T : Nat → Nat → Nat} {M : Mem} (hk : gok g) (hT : DP g T) (hn : labN g ≤ 10) (hOM : OM g M) (hN : M 50 16 = nI (labN g)) {s : Nat} {Q : AV → Mem → Prop} (hss : s < 2 ^ labN g) (out : ∀ (M1 : Mem) (x3 x4 x5 x6 : Option AV), (∀ q, q ≠ 73 → M1 q = M q) → TM g T s M1 → G l α D cA uX10_laysChanges none (d + 1) Q 114 [some (.inr 50), some (.inl (nI (2 ^ labN g - 1))), some (.inl (nI s)), x3, x4, x5, x6] [] M1) : ∀ (k last : Nat) (M1 : Mem) (x4 x5 x6 : Option AV), 4 - last = k → last ≤ 4 → (∀ q, q ≠ 73 → M1 q = M q) → TM g T (s + 1) M1 → (∀ c, c < last → M1 73 (4 * s + c) = nI (T s c)) → G l α D cA uX10_laysChanges none (d + 1) Q 17 [some (.inr 50), some (.inl (nI (2 ^ labN g - 1))), some (.inl (nI s)), some (.inl (nI last)), x4, x5, x6] [] M1 := by
  have hp := p2_10 hn
  intro k
  induction k using Nat.strongRecOn with
  | _ k ih => ?_
  intro last M1 x4 x5 x6 hkk hl hR hTM hC
  refine G_iload_n dX10_laysChanges_17 rfl rfl ?_
  refine G_iconst (v := (nI 4)) dX10_laysChanges_18 (by decide) ?_
  refine Gn_icmp_ge (tgt := 114) dX10_laysChanges_19 (by decide) (by omega) (by omega) (fun h19 => ?_) (fun h19 => ?_)
  · have e : last = 4 := by omega
    subst e
    refine out M1 _ _ _ _ hR (fun s' h1 h2 c hc => ?_)
    rcases (show s' = s ∨ s + 1 ≤ s' by omega) with z | z
    · subst z; exact hC c hc
    · exact hTM s' z h2 c hc
  · refine G_iload_n dX10_laysChanges_22 rfl rfl ?_
    refine G_iload_n dX10_laysChanges_23 rfl rfl ?_
    refine Gn_icmp_ne (tgt := 31) dX10_laysChanges_24 (by decide) (by omega) (by omega) (fun h24 => ?_) (fun h24 => ?_)
    · refine G_sipush (v := (nI (lst g T s last 0))) dX10_laysChanges_31 (by rw [lst, if_neg h24]; decide) ?_
      refine G_istore (L2 := [some (.inr 50), some (.inl (nI (2 ^ labN g - 1))), some (.inl (nI s)), some (.inl (nI last)), some (.inl (nI (lst g T s last 0))), x5, x6]) dX10_laysChanges_34 (Nat.le_of_ble_eq_true rfl) rfl ?_
      refine G_iconst (v := (nI 0)) dX10_laysChanges_36 (by decide) ?_
      refine G_istore (L2 := [some (.inr 50), some (.inl (nI (2 ^ labN g - 1))), some (.inl (nI s)), some (.inl (nI last)), some (.inl (nI (lst g T s last 0))), some (.inl (nI 0)), x6]) dX10_laysChanges_37 (Nat.le_of_ble_eq_true rfl) rfl ?_
      refine ly_chF hk hT hn (OM_73 hOM hR) (by rw [hR 50 (by decide)]; exact hN) hss (show last < 4 by omega) hTM (fun x5 x6 => ?_) _ 0 _ rfl (Nat.zero_le _)
      refine ly_chS (s := s) (last := last) hk hT hn hss (show last < 4 by omega) ?_
      exact ih (4 - (last + 1)) (by omega) (last + 1) _ _ _ _ rfl (by omega) (fun q a => by rw [ms_q a]; exact hR q a) (TM_set hTM (by omega)) (fun c hc => by
        rw [ms_o]
        by_cases e : c = last
        · subst e; exact upd_k
        · rw [upd_n (by omega)]; exact hC c (by omega))
    · refine G_iconst (v := (nI (lst g T s last 0))) dX10_laysChanges_27 (by rw [lst, if_pos h24]; decide) ?_
      refine G_goto (tgt := 34) dX10_laysChanges_28 (by decide) ?_
      refine G_istore (L2 := [some (.inr 50), some (.inl (nI (2 ^ labN g - 1))), some (.inl (nI s)), some (.inl (nI last)), some (.inl (nI (lst g T s last 0))), x5, x6]) dX10_laysChanges_34 (Nat.le_of_ble_eq_true rfl) rfl ?_
      refine G_iconst (v := (nI 0)) dX10_laysChanges_36 (by decide) ?_
      refine G_istore (L2 := [some (.inr 50), some (.inl (nI (2 ^ labN g - 1))), some (.inl (nI s)), some (.inl (nI last)), some (.inl (nI (lst g T s last 0))), some (.inl (nI 0)), x6]) dX10_laysChanges_37 (Nat.le_of_ble_eq_true rfl) rfl ?_
      refine ly_chF hk hT hn (OM_73 hOM hR) (by rw [hR 50 (by decide)]; exact hN) hss (show last < 4 by omega) hTM (fun x5 x6 => ?_) _ 0 _ rfl (Nat.zero_le _)
      refine ly_chS (s := s) (last := last) hk hT hn hss (show last < 4 by omega) ?_
      exact ih (4 - (last + 1)) (by omega) (last + 1) _ _ _ _ rfl (by omega) (fun q a => by rw [ms_q a]; exact hR q a) (TM_set hTM (by omega)) (fun c hc => by
        rw [ms_o]
        by_cases e : c = last
        · subst e; exact upd_k
        · rw [upd_n (by omega)]; exact hC c (by omega))
theorem ly_chO {d : Nat} {g : Nat → Nat} {T : Nat → Nat → Nat} {M : Mem} (hk : gok g) (hT : DP g T) (hn : labN g ≤ 10) (hOM : OM g M) (hN : M 50 16 = nI (labN g)) : ∀ (k x : Nat) (M1 : Mem) (x3 x4 x5 x6 : Option AV), x = k → x ≤ 2 ^ labN g → (∀ q, q ≠ 73 → M1 q = M q) → TM g T x M1 → G l α D cA uX10_laysChanges none (d + 1) (fun _ M1 => (∀ q, q ≠ 73 → M1 q = M q) ∧ TM g T 0 M1) 11 [some (.inr 50), some (.inl (nI (2 ^ labN g - 1))), some (.inl (nI x - nI 1)), x3, x4, x5, x6] [] M1 := by
  have hp := p2_10 hn
  intro k
  induction k using Nat.strongRecOn with
  | _ k ih => ?_
  intro x M1 x3 x4 x5 x6 hkk hx hR hTM
  refine G_iload_n dX10_laysChanges_11 rfl rfl ?_
  refine G_if_lt (tgt := 120) dX10_laysChanges_12 (by decide) (fun h12 => ?_) (fun h12 => ?_)
  · refine G_vret dX10_laysChanges_120 rfl ?_
    have e : x = 0 := (neg_I (by omega)).mp h12
    subst e
    exact ⟨hR, hTM⟩
  · obtain ⟨s, rfl⟩ : ∃ s, x = s + 1 := ⟨x - 1, by have : ¬ x = 0 := fun z => h12 ((neg_I (show x < 2 ^ 30 by omega)).mpr z); omega⟩
    rw [show nI (s + 1) - nI 1 = nI s by rw [pk_sub (by omega)]; rfl]
    refine G_iconst (v := (nI 0)) dX10_laysChanges_15 (by decide) ?_
    refine G_istore_n (L2 := [some (.inr 50), some (.inl (nI (2 ^ labN g - 1))), some (.inl (nI s)), some (.inl (nI 0)), x4, x5, x6]) dX10_laysChanges_16 rfl (Nat.le_of_ble_eq_true rfl) rfl ?_
    refine ly_chL (M := M1) hk hT hn (OM_73 hOM hR) (by rw [hR 50 (by decide)]; exact hN) (show s < 2 ^ labN g by omega) (fun M2 x3 x4 x5 x6 hR2 hTM2 => ?_) _ 0 M1 _ _ _ rfl (by decide) (fun _ _ => rfl) hTM (fun c hc => absurd hc (Nat.not_lt_zero _))
    refine G_iinc (v := (nI s - nI 1)) (L2 := [some (.inr 50), some (.inl (nI (2 ^ labN g - 1))), some (.inl (nI s - nI 1)), x3, x4, x5, x6]) dX10_laysChanges_114 rfl neg1_I rfl ?_
    refine G_goto (tgt := 11) dX10_laysChanges_117 (by decide) ?_
    exact ih s (by omega) s M2 _ _ _ _ rfl (by omega) (fun q a => (hR2 q a).trans (hR q a)) hTM2
theorem y_laysChanges {d : Nat} {g : Nat → Nat} {T : Nat → Nat → Nat} {M : Mem} (hk : gok g) (hT : DP g T) (hn : labN g ≤ 10) (hOM : OM g M) (hN : M 50 16 = nI (labN g)) : Call l α D cA uX10_laysChanges (d + 1) [.inr 50] M (fun _ M1 => (∀ q, q ≠ 73 → M1 q = M q) ∧ TM g T 0 M1) := by
  refine Call.of kX10_laysChanges.1 (Nat.le_of_ble_eq_true rfl) ?_
  have hp := p2_10 hn
  have hp1 := Nat.two_pow_pos (labN g)
  refine G_iconst (v := (nI 1)) dX10_laysChanges_0 (by decide) ?_
  refine G_aload_n dX10_laysChanges_1 rfl rfl ?_
  refine G_getI (v := (nI (labN g))) dX10_laysChanges_2 fX10_160 rfl rfl hN ?_
  refine G_ishl (v := (nI (2 ^ labN g))) dX10_laysChanges_5 (shl_I _ (by omega)) ?_
  refine G_iconst (v := (nI 1)) dX10_laysChanges_6 (by decide) ?_
  refine G_isub (v := (nI (2 ^ labN g - 1))) dX10_laysChanges_7 (pk_sub (by omega)) ?_
  refine G_istore_n (L2 := [some (.inr 50), some (.inl (nI (2 ^ labN g - 1))), none, none, none, none, none]) dX10_laysChanges_8 rfl (Nat.le_of_ble_eq_true rfl) rfl ?_
  refine G_iload_n dX10_laysChanges_9 rfl rfl ?_
  refine G_istore_n (L2 := [some (.inr 50), some (.inl (nI (2 ^ labN g - 1))), some (.inl (nI (2 ^ labN g - 1))), none, none, none, none]) dX10_laysChanges_10 rfl (Nat.le_of_ble_eq_true rfl) rfl ?_
  rw [show nI (2 ^ labN g - 1) = nI (2 ^ labN g) - nI 1 from (pk_sub (by omega)).symm]
  have h := ly_chO (l := l) (α := α) (D := D) (cA := cA) (d := d) hk hT hn hOM hN _ (2 ^ labN g) M none none none none rfl (Nat.le_refl _) (fun _ _ => rfl) (fun s h1 h2 => absurd h2 (by omega))
  rw [show nI (2 ^ labN g - 1) = nI (2 ^ labN g) - nI 1 from (pk_sub (by omega)).symm] at h
  exact h
theorem ly_faI {d : Nat} {g : Nat → Nat} {T : Nat → Nat → Nat} {M : Mem} (hk : gok g) (hT : DP g T) (hn : labN g ≤ 10) (hOM : OM g M) (hTM : TM g T 0 M) {kk s last f i : Nat} {Q : AV → Mem → Prop} (hI : IV g s last) (hg : gst g s last = some f) (out : G l α D cA uX10_fieldAt none (d + 1) Q 57 [some (.inr 50), some (.inl (nI kk)), some (.inl (nI s)), some (.inl (nI last)), some (.inl (nI f)), some (.inl (nI i))] [] M) : ∀ (k j : Nat), f - j = k → j ≤ f → G l α D cA uX10_fieldAt none (d + 1) Q 20 [some (.inr 50), some (.inl (nI kk)), some (.inl (nI s)), some (.inl (nI last)), some (.inl (nI j)), some (.inl (nI i))] [] M := by
  have hp := p2_10 hn
  have hG := greedy hk hT hI hg
  have hss := hI.1
  have hl := hI.2.1
  intro k
  induction k using Nat.strongRecOn with
  | _ k ih => ?_
  intro j hkk hj
  have hjn : j < labN g := by have := hG.1; omega
  refine G_aload_n dX10_fieldAt_20 rfl rfl ?_
  refine G_iload_n dX10_fieldAt_21 rfl rfl ?_
  refine G_iload dX10_fieldAt_22 rfl ?_
  refine G_callVi (ν := uX10_mayCome) (As := [.inl (nI s), .inl (nI j)]) dX10_fieldAt_24 nX10_247 kX10_mayCome rfl rfl rfl rfl rfl (Nat.le_of_ble_eq_true rfl) (y_mayCome hn hOM hss hjn) ?_
  rintro _ M8 ⟨rfl, e9⟩
  subst M8
  refine Gb_if_eq (tgt := 51) dX10_fieldAt_27 (by decide) (fun h27 => ?_) (fun h27 => ?_)
  · refine G_iinc (v := (nI (j + 1))) (L2 := [some (.inr 50), some (.inl (nI kk)), some (.inl (nI s)), some (.inl (nI last)), some (.inl (nI (j + 1))), some (.inl (nI i))]) dX10_fieldAt_51 rfl (nI_1 _) rfl ?_
    refine G_goto (tgt := 20) dX10_fieldAt_54 (by decide) ?_
    have hnj : ¬ (mayc g s j ∧ wfd g T s last j = T s last) := fun q => dec_niff.mp h27 q.1
    have hjf : j ≠ f := fun z => hnj (by rw [z]; exact ⟨hG.2.1, hG.2.2.1⟩)
    exact ih (f - (j + 1)) (by omega) (j + 1) rfl (by omega)
  · refine G_aload_n dX10_fieldAt_30 rfl rfl ?_
    refine G_iload_n dX10_fieldAt_31 rfl rfl ?_
    refine G_iload_n dX10_fieldAt_32 rfl rfl ?_
    refine G_iload dX10_fieldAt_33 rfl ?_
    refine G_callVi (ν := uX10_withField) (As := [.inl (nI s), .inl (nI last), .inl (nI j)]) dX10_fieldAt_35 nX10_250 kX10_withField rfl rfl rfl rfl rfl (Nat.le_of_ble_eq_true rfl) (y_withField hk hT hn hOM hss hjn hl (hTM _ (Nat.zero_le _) (or_lt hss hjn) _ (by have := col_in hk hjn; omega))) ?_
    rintro _ M8 ⟨rfl, e9⟩
    subst M8
    have hwf := wfd_1001 (last := last) hk hT hss hjn
    have hTb := T_1000 hT hss hl
    refine G_aload_n dX10_fieldAt_38 rfl rfl ?_
    refine G_getR (j := 73) dX10_fieldAt_39 fX10_78 rfl rfl ?_
    refine G_iconst (v := (nI 4)) dX10_fieldAt_42 (by decide) ?_
    refine G_iload_n dX10_fieldAt_43 rfl rfl ?_
    refine G_imul (v := (nI (4 * s))) dX10_fieldAt_44 (pk_mul _ _) ?_
    refine G_iload_n dX10_fieldAt_45 rfl rfl ?_
    refine G_iadd (v := (nI ((4 * s) + last))) dX10_fieldAt_46 (nI_add _ _) ?_
    refine G_iald (k := (4 * s) + last) (v := (nI (T s last))) dX10_fieldAt_47 rfl (vp_in_nI (by omega) (by omega)) (nI_clamp (by omega)) (hTM s (Nat.zero_le _) hss last hl) ?_
    refine Gn_icmp_eq (tgt := 57) dX10_fieldAt_48 (by decide) (by omega) (by omega) (fun h48 => ?_) (fun h48 => ?_)
    · have e : j = f := by
        rcases (show j < f ∨ j = f by omega) with z | z
        · exact absurd ⟨dec_iff.mp h27, h48⟩ (hG.2.2.2.1 j z)
        · exact z
      subst e
      exact out
    · refine G_iinc (v := (nI (j + 1))) (L2 := [some (.inr 50), some (.inl (nI kk)), some (.inl (nI s)), some (.inl (nI last)), some (.inl (nI (j + 1))), some (.inl (nI i))]) dX10_fieldAt_51 rfl (nI_1 _) rfl ?_
      refine G_goto (tgt := 20) dX10_fieldAt_54 (by decide) ?_
      have hnj : ¬ (mayc g s j ∧ wfd g T s last j = T s last) := fun q => h48 q.2
      have hjf : j ≠ f := fun z => hnj (by rw [z]; exact ⟨hG.2.1, hG.2.2.1⟩)
      exact ih (f - (j + 1)) (by omega) (j + 1) rfl (by omega)
theorem ly_faS {d kk s last f i : Nat} {g : Nat → Nat} {M : Mem} {Q : AV → Mem → Prop} (hk : gok g) (hn : labN g ≤ 10) (hOM : OM g M) (hss : s < 2 ^ labN g) (hf : f < labN g) (out : G l α D cA uX10_fieldAt none (d + 1) Q 11 [some (.inr 50), some (.inl (nI kk)), some (.inl (nI (s ||| 2 ^ f))), some (.inl (nI (col g f))), some (.inl (nI f)), some (.inl (nI (i + 1)))] [] M) : G l α D cA uX10_fieldAt none (d + 1) Q 57 [some (.inr 50), some (.inl (nI kk)), some (.inl (nI s)), some (.inl (nI last)), some (.inl (nI f)), some (.inl (nI i))] [] M := by
  have hp := p2_10 hn
  refine G_aload_n dX10_fieldAt_57 rfl rfl ?_
  refine G_getR (j := 72) dX10_fieldAt_58 fX10_75 rfl rfl ?_
  refine G_iload dX10_fieldAt_61 rfl ?_
  refine G_iald (k := f) (v := (nI (col g f))) dX10_fieldAt_63 rfl (vp_in_nI (by omega) (by omega)) (nI_clamp (by omega)) (hOM.1 f hf) ?_
  refine G_istore_n (L2 := [some (.inr 50), some (.inl (nI kk)), some (.inl (nI s)), some (.inl (nI (col g f))), some (.inl (nI f)), some (.inl (nI i))]) dX10_fieldAt_64 rfl (Nat.le_of_ble_eq_true rfl) rfl ?_
  refine G_iload_n dX10_fieldAt_65 rfl rfl ?_
  refine G_iconst (v := (nI 1)) dX10_fieldAt_66 (by decide) ?_
  refine G_iload dX10_fieldAt_67 rfl ?_
  refine G_ishl (v := (nI (2 ^ f))) dX10_fieldAt_69 (shl_I f (by omega)) ?_
  refine G_ior (v := (nI (s ||| 2 ^ f))) dX10_fieldAt_70 (or_I _ _) ?_
  refine G_istore_n (L2 := [some (.inr 50), some (.inl (nI kk)), some (.inl (nI (s ||| 2 ^ f))), some (.inl (nI (col g f))), some (.inl (nI f)), some (.inl (nI i))]) dX10_fieldAt_71 rfl (Nat.le_of_ble_eq_true rfl) rfl ?_
  refine G_iinc (v := (nI (i + 1))) (L2 := [some (.inr 50), some (.inl (nI kk)), some (.inl (nI (s ||| 2 ^ f))), some (.inl (nI (col g f))), some (.inl (nI f)), some (.inl (nI (i + 1)))]) dX10_fieldAt_72 rfl (nI_1 _) rfl ?_
  refine G_goto (tgt := 11) dX10_fieldAt_75 (by decide) ?_
  exact out
theorem ly_faO {d : Nat} {g : Nat → Nat} {T : Nat → Nat → Nat} {M : Mem} (hk : gok g) (hT : DP g T) (hn : labN g ≤ 10) (hOM : OM g M) (hTM : TM g T 0 M) {kk : Nat} (hkn : kk < labN g) : ∀ (k i : Nat), kk + 1 - i = k → i ≤ kk + 1 → G l α D cA uX10_fieldAt none (d + 1) (fun r M1 => r = .inl (nI ((ordS g 3).2.1 kk)) ∧ M1 = M) 11 [some (.inr 50), some (.inl (nI kk)), some (.inl (nI ((pth g i).1))), some (.inl (nI ((pth g i).2))), some (.inl (if i = 0 then (-9) else nI ((ordS g 3).2.1 (i - 1)))), some (.inl (nI i))] [] M := by
  have hp := p2_10 hn
  intro k
  induction k using Nat.strongRecOn with
  | _ k ih => ?_
  intro i hkk hi
  refine G_iload dX10_fieldAt_11 rfl ?_
  refine G_iload_n dX10_fieldAt_13 rfl rfl ?_
  refine Gn_icmp_gt (tgt := 78) dX10_fieldAt_14 (by decide) (by omega) (by omega) (fun h14 => ?_) (fun h14 => ?_)
  · refine G_iload dX10_fieldAt_78 rfl ?_
    refine G_iret dX10_fieldAt_80 rfl rfl ?_
    have e : i = kk + 1 := by omega
    subst e
    exact ⟨by rw [if_neg (Nat.succ_ne_zero kk), Nat.add_sub_cancel], rfl⟩
  · refine G_iconst (v := (nI 0)) dX10_fieldAt_17 (by decide) ?_
    refine G_istore (L2 := [some (.inr 50), some (.inl (nI kk)), some (.inl (nI ((pth g i).1))), some (.inl (nI ((pth g i).2))), some (.inl (nI 0)), some (.inl (nI i))]) dX10_fieldAt_18 (Nat.le_of_ble_eq_true rfl) rfl ?_
    have hI := pth_IV hk i
    have hg := (PA_all hk 3).1 i (by rw [ord_n hk]; omega)
    have hG := greedy hk hT hI hg
    refine ly_faI hk hT hn hOM hTM hI hg ?_ _ 0 rfl (Nat.zero_le _)
    have hcf := col_in hk hG.1
    refine ly_faS hk hn hOM hI.1 hG.1 ?_
    have e := pth_s hg
    rw [show (pth g i).1 ||| 2 ^ ((ordS g 3).2.1 i) = (pth g (i + 1)).1 by rw [e], show col g ((ordS g 3).2.1 i) = (pth g (i + 1)).2 by rw [e], show nI ((ordS g 3).2.1 i) = if i + 1 = 0 then (-9) else nI ((ordS g 3).2.1 (i + 1 - 1)) by rw [if_neg (Nat.succ_ne_zero i), Nat.add_sub_cancel]]
    exact ih (kk + 1 - (i + 1)) (by omega) (i + 1) rfl (by omega)
theorem y_fieldAt {d : Nat} {g : Nat → Nat} {T : Nat → Nat → Nat} {M : Mem} (hk : gok g) (hT : DP g T) (hn : labN g ≤ 10) (hOM : OM g M) (hTM : TM g T 0 M) {kk : Nat} (hkn : kk < labN g) : Call l α D cA uX10_fieldAt (d + 1) [.inr 50, .inl (nI kk)] M (fun r M1 => r = .inl (nI ((ordS g 3).2.1 kk)) ∧ M1 = M) := by
  refine Call.of kX10_fieldAt.1 (Nat.le_of_ble_eq_true rfl) ?_
  refine G_iconst (v := (nI 0)) dX10_fieldAt_0 (by decide) ?_
  refine G_istore_n (L2 := [some (.inr 50), some (.inl (nI kk)), some (.inl (nI 0)), none, none, none]) dX10_fieldAt_1 rfl (Nat.le_of_ble_eq_true rfl) rfl ?_
  refine G_iconst (v := (nI 0)) dX10_fieldAt_2 (by decide) ?_
  refine G_istore_n (L2 := [some (.inr 50), some (.inl (nI kk)), some (.inl (nI 0)), some (.inl (nI 0)), none, none]) dX10_fieldAt_3 rfl (Nat.le_of_ble_eq_true rfl) rfl ?_
  refine G_bipush (v := (if 0 = 0 then (-9) else nI ((ordS g 3).2.1 (0 - 1)))) dX10_fieldAt_4 (by rw [if_pos rfl]; decide) ?_
  refine G_istore (L2 := [some (.inr 50), some (.inl (nI kk)), some (.inl (nI 0)), some (.inl (nI 0)), some (.inl (if 0 = 0 then (-9) else nI ((ordS g 3).2.1 (0 - 1)))), none]) dX10_fieldAt_6 (Nat.le_of_ble_eq_true rfl) rfl ?_
  refine G_iconst (v := (nI 0)) dX10_fieldAt_8 (by decide) ?_
  refine G_istore (L2 := [some (.inr 50), some (.inl (nI kk)), some (.inl (nI 0)), some (.inl (nI 0)), some (.inl (if 0 = 0 then (-9) else nI ((ordS g 3).2.1 (0 - 1)))), some (.inl (nI 0))]) dX10_fieldAt_9 (Nat.le_of_ble_eq_true rfl) rfl ?_
  exact ly_faO hk hT hn hOM hTM hkn _ 0 rfl (Nat.zero_le _)
theorem no1 {n : Nat} (h : n < 2 ^ 31) : ¬ nI n = -1 := by
  intro e
  have h1 := nI_pos h
  rw [e] at h1
  exact absurd (by decide) h1
theorem FY_73 {M M1 : Mem} (h : ∀ q, q ≠ 73 → M1 q = M q) : FY M M1 := ⟨fun q a b => h q (by omega), fun j _ => by rw [h 50 (by decide)]⟩
theorem y_order {d : Nat} {s : AS} {M : Mem} {k0 : Int32} (hY : YR s M) : Call l α D cA uX10_order (d + 4) [.inr 50, .inl k0] M (PY M (qOrder s.2.1 k0, s)) := by
  refine Call.of kX10_order.1 (Nat.le_of_ble_eq_true rfl) ?_
  refine G_aload_n dX10_order_0 rfl rfl ?_
  refine G_iconst (v := (nI 0)) dX10_order_1 (by decide) ?_
  refine G_put dX10_order_2 pX10_81 rfl rfl ?_
  have hF0 : FY M (ms M 50 0 (nI 0)) := FY_0
  generalize ms M 50 0 (nI 0) = M0 at hF0 ⊢
  have hY0 := YR_Y hY hF0
  obtain ⟨hok, hs, hPA, hKE, hFA, hTB⟩ := id hY0
  have hk := hok.1
  have hL := labN_48 (g := s.2.1)
  refine G_iload_n dX10_order_5 rfl rfl ?_
  refine G_iconst (v := ((-1))) dX10_order_6 (by decide) ?_
  refine G_icmp_ge (tgt := 12) dX10_order_7 (by decide) (fun h7 => ?_) (fun h7 => ?_)
  · refine G_aload_n dX10_order_12 rfl rfl ?_
    refine G_callVv (ν := uX10_laysFields) (As := []) dX10_order_13 nX10_228 kX10_laysFields rfl rfl rfl rfl rfl (Nat.le_of_ble_eq_true rfl) (y_laysFields hs hk) ?_
    rintro _ M2 ⟨hR2, hO2⟩
    have hs2 : hS s.2.1 (M2 51) := by rw [hR2.1 51 (by decide) (by decide)]; exact hs
    refine G_aload_n dX10_order_16 rfl rfl ?_
    refine G_getI (v := (nI (labN s.2.1))) dX10_order_17 fX10_160 rfl rfl hO2.2 ?_
    refine G_bipush (v := (nI 10)) dX10_order_20 (by decide) ?_
    refine Gn_icmp_le (tgt := 28) dX10_order_22 (by decide) (by omega) (by omega) (fun h22 => ?_) (fun h22 => ?_)
    · refine G_aload_n dX10_order_28 rfl rfl ?_
      refine G_getI (v := (nI (labN s.2.1))) dX10_order_29 fX10_160 rfl rfl hO2.2 ?_
      refine Gn_if_eq (tgt := 43) dX10_order_32 (by decide) (by omega) (fun h32 => ?_) (fun h32 => ?_)
      · refine G_bipush (v := ((-9))) dX10_order_43 (by decide) ?_
        refine G_iret dX10_order_45 rfl rfl ?_
        exact PYq hY0 hF0 (FY_L hR2) (by rw [qOrder, cI_f (by grind), cI_f (by omega), cI_t (by omega)])
      · refine G_iload_n dX10_order_35 rfl rfl ?_
        refine G_aload_n dX10_order_36 rfl rfl ?_
        refine G_getI (v := (nI (labN s.2.1))) dX10_order_37 fX10_160 rfl rfl hO2.2 ?_
        refine G_icmp_lt (tgt := 46) dX10_order_40 (by decide) (fun h40 => ?_) (fun h40 => ?_)
        · refine G_aload_n dX10_order_46 rfl rfl ?_
          refine G_callVv (ν := uX10_laysAhead) (As := []) dX10_order_47 nX10_253 kX10_laysAhead rfl rfl rfl rfl rfl (Nat.le_of_ble_eq_true rfl) (y_laysAhead hs2 hk hO2 (by omega)) ?_
          rintro _ M3 ⟨hR3, hOM⟩
          obtain ⟨T, hT⟩ := DP_ex s.2.1
          refine G_aload_n dX10_order_50 rfl rfl ?_
          refine G_callVv (ν := uX10_laysChanges) (As := []) dX10_order_51 nX10_256 kX10_laysChanges rfl rfl rfl rfl rfl (Nat.le_of_ble_eq_true rfl) (y_laysChanges hk hT (by omega) hOM (R7_O hR3 hO2).2) ?_
          rintro _ M4 ⟨hR4, hTM⟩
          have hF4 := FY_73 hR4
          refine G_iload_n dX10_order_54 rfl rfl ?_
          refine G_iconst (v := ((-1))) dX10_order_55 (by decide) ?_
          refine G_icmp_ne (tgt := 68) dX10_order_56 (by decide) (fun h56 => ?_) (fun h56 => ?_)
          · obtain ⟨k, hkk, rfl⟩ := nI_of (show ¬ k0 < 0 by grind)
            have h40n : k < labN s.2.1 := (nI_ltI hkk (by omega)).mp h40
            refine G_aload_n dX10_order_68 rfl rfl ?_
            refine G_iload_n dX10_order_69 rfl rfl ?_
            refine G_callVi (ν := uX10_fieldAt) (As := [.inl (nI k)]) dX10_order_70 nX10_259 kX10_fieldAt rfl rfl rfl rfl rfl (Nat.le_of_ble_eq_true rfl) (y_fieldAt hk hT (by omega) (OM_73 hOM hR4) hTM h40n) ?_
            rintro _ M8 ⟨rfl, e9⟩
            subst M8
            refine G_iret dX10_order_73 rfl rfl ?_
            exact PYq hY0 hF0 (FY_t (FY_L hR2) (FY_t (R7_Y hR3) hF4)) (by rw [qOrder, cI_f (by grind), cI_f (by omega), cI_f (by omega), cI_f (fun q => no1 hkk q), nN hkk, if_pos (by rw [ord_n hk]; exact h40n)]; rfl)
          · refine G_aload_n dX10_order_59 rfl rfl ?_
            refine G_getR (j := 73) dX10_order_60 fX10_78 rfl rfl ?_
            refine G_iconst (v := (nI 0)) dX10_order_63 (by decide) ?_
            refine G_iald (k := 0) (v := (nI ((ordS s.2.1 3).2.2.2 - 1))) dX10_order_64 rfl (vp_in_nI (by decide) (by decide)) rfl (by rw [← T_00 hk hT]; exact hTM 0 (Nat.le_refl _) (Nat.two_pow_pos _) 0 (by decide)) ?_
            refine G_goto (tgt := 73) dX10_order_65 (by decide) ?_
            refine G_iret dX10_order_73 rfl rfl ?_
            exact PYq hY0 hF0 (FY_t (FY_L hR2) (FY_t (R7_Y hR3) hF4)) (by rw [qOrder, cI_f (by grind), cI_f (by omega), cI_f (by omega), cI_t (by grind)])
        · refine G_bipush (v := ((-9))) dX10_order_43 (by decide) ?_
          refine G_iret dX10_order_45 rfl rfl ?_
          obtain ⟨k, hkk, rfl⟩ := nI_of (show ¬ k0 < 0 by have := nI_pos' (show labN s.2.1 < 2 ^ 31 by omega); grind)
          have h40 : ¬ k < labN s.2.1 := fun q => h40 (nI_lt q (by omega))
          exact PYq hY0 hF0 (FY_L hR2) (by rw [qOrder, cI_f (by grind), cI_f (by omega), cI_f (by omega), cI_f (fun q => no1 hkk q), nN hkk, if_neg (by rw [ord_n hk]; omega)]; rfl)
    · refine G_bipush (v := ((-3))) dX10_order_25 (by decide) ?_
      refine G_iret dX10_order_27 rfl rfl ?_
      exact PYq hY0 hF0 (FY_L hR2) (by rw [qOrder, cI_f (by grind), cI_t (by omega)])
  · refine G_iconst (v := ((-1))) dX10_order_10 (by decide) ?_
    refine G_iret dX10_order_11 rfl rfl ?_
    exact PYq hY0 hF0 FY_r (by rw [qOrder, cI_t (by grind)])
end P39
