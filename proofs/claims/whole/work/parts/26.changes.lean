/-! SewnFields: the calls that change something -/
section P26
variable {l : Launch} {α : Nat → Nat} {D : va_G} {cA : Nat → ClassId}
theorem conn_cong {g g' : Nat → Nat} (h : ∀ p, g' (12 + p) = g (12 + p)) : conn g' = conn g := by
  have h1 : ∀ p q, adjc g' p q = adjc g p q := fun p q => by unfold adjc; rw [h, h]
  have h2 : ∀ n p q, rch g' n p q = rch g n p q := by
    intro n
    induction n with
    | zero => intro p q; rfl
    | succ n ih =>
      intro p q
      unfold rch
      rw [ih]
      refine congrArg _ (propext ⟨?_, ?_⟩)
      · rintro ⟨r, a, b⟩
        exact ⟨r, by rw [← ih]; exact a, by rw [← h1]; exact b⟩
      · rintro ⟨r, a, b⟩
        exact ⟨r, by rw [ih]; exact a, by rw [h1]; exact b⟩
  funext p q
  unfold conn
  exact propext ⟨fun ⟨n, a⟩ => ⟨n, by rw [← h2]; exact a⟩, fun ⟨n, a⟩ => ⟨n, by rw [h2]; exact a⟩⟩
theorem lab_cong {g g' : Nat → Nat} (h : ∀ p, g' (12 + p) = g (12 + p)) : ∀ p, lab g' p = lab g p := by
  intro p
  induction p with
  | zero => rfl
  | succ p ih =>
    unfold lab
    rw [h, ih, conn_cong h]
theorem MPg_cong {g g' : Nat → Nat} {M : Mem} (h : ∀ p, g' (12 + p) = g (12 + p)) (hM : MPg g M) : MPg g' M := by
  have e1 : labF g' = labF g := by unfold labF; rw [lab_cong h]
  have e2 : labN g' = labN g := by unfold labN; rw [lab_cong h]
  have e3 : labR g' = labR g := by unfold labR; rw [lab_cong h]
  unfold MPg MP at *
  rw [e1, e2, e3, conn_cong h]
  refine ⟨hM.1, hM.2.1, hM.2.2.1, fun f hf => ?_⟩
  rw [h]
  exact hM.2.2.2 f hf
/-- a new cloth, the old one in the history -/
theorem XR_push {s : AS} {M M1 : Mem} {g' : Nat → Nat} {n' nx : Nat} {t' : Nat → Nat} (hX : XR s M) (hk : gok g') (hT : TX n' t' M1) (h2 : hC g' (M1 2)) (hm : MPg g' M1) (hH : HX (min (s.2.2.1.1 + 1) 6) nx (hCons s.2.1 s.2.2.1.2) M1) (hF : ∀ q, (34 ≤ q ∧ q ≤ 37) ∨ (46 ≤ q ∧ q ≤ 49) → M1 q = M q) : XR ((n', t'), (push s g').2) M1 := by
  obtain ⟨h0, h1, -, h4, h5, h6⟩ := hX
  refine ⟨⟨hk, fun i hi => ?_, h0.2.2⟩, hT, ⟨h2, hm⟩, ⟨nx, hH⟩, SN_k h5 (fun q a b => hF q (by omega)), OB_k h6 (fun q a b => hF q (by omega))⟩
  show gok (hCons s.2.1 s.2.2.1.2 i)
  have hi : i < min (s.2.2.1.1 + 1) 6 := hi
  cases i with
  | zero => exact h0.1
  | succ i => exact h0.2.1 i (by omega)
theorem XR_T {s : AS} {M M1 : Mem} {n' : Nat} {t' : Nat → Nat} (hX : XR s M) (hT : TX n' t' M1) (hF : ∀ q, q ≠ 3 → q ≠ 4 → M1 q = M q) : XR ((n', t'), s.2) M1 := by
  obtain ⟨h0, h1, ⟨h2, h3⟩, ⟨nx, h4⟩, h5, h6⟩ := hX
  exact ⟨h0, hT, ⟨by rw [hF 2 (by decide) (by decide)]; exact h2, MPg_k h3 (fun q a b => hF q (by omega) (by omega))⟩, ⟨nx, HX_k h4 (hF 38 (by decide) (by decide)) (fun q a b => hF q (by omega) (by omega))⟩, SN_k h5 (fun q a b => hF q (by omega) (by omega)), OB_k h6 (fun q a b => hF q (by omega) (by omega))⟩
theorem PX_mk {s' : AS} {M M1 : Mem} {a ans : Int32} {p : Int32 × AS} (e : p = (a, s')) (h : XR s' M1) (hF : ∀ q, 50 ≤ q → M1 q = M q) (ea : ans = a) : PX M p (.inl ans) M1 := by
  subst e ea
  exact ⟨rfl, h, hF⟩
theorem PX_r {s' : AS} {M M1 : Mem} {a : Int32} (h : XR s' M1) (hF : ∀ q, 50 ≤ q → M1 q = M q) : PX M (a, s') (.inl a) M1 := ⟨rfl, h, hF⟩
theorem pRd_le {n : Nat} {t : Nat → Nat} : ∀ (k m : Nat) (s : RT), (pRd n t k m s).2.1 ≤ m + k := by
  intro k
  induction k with
  | zero => intro m s; exact Nat.le_refl _
  | succ k ih =>
    intro m s
    rw [pRd]
    split
    · exact Nat.le_add_right _ _
    · split
      · exact Nat.le_trans (ih (m + 1) _) (by omega)
      · exact Nat.le_add_right _ _
theorem neg10 {k : Nat} (h : k ≤ 120) : ¬ (-10 - nI k ≥ 0) := by
  have : ∀ k, k ≤ 120 → ¬ (-10 - nI k ≥ 0) := by decide +kernel
  exact this k h
theorem ct_gap {P : Nat → Bool} {a b : Nat} (h : a ≤ b) (hz : ∀ p, a ≤ p → p < b → P p = false) : fb_ct P a = fb_ct P b := by
  obtain ⟨k, rfl⟩ := Nat.le.dest h
  rw [fb_ct_split, (fb_ct_zero (n := k)).mpr (fun j hj => hz _ (by omega) (by omega))]
  rfl
theorem FRM_50 {M M1 : Mem} (h : FRM M M1) : ∀ q, 16 ≤ q → M1 q = M q := fun q hq => h q (by omega)
theorem gok_w {g : Nat → Nat} (hk : gok g) {i v : Nat} (h : (i = 2 ∧ 1 ≤ v ∧ v ≤ 5) ∨ (i = 3 ∧ v ≤ 2) ∨ (4 ≤ i ∧ i < 8 ∧ v ≤ 1) ∨ (8 ≤ i ∧ i < 12 ∧ v ≤ 9)) : gok (updN g i v) := by
  have e : ∀ j, updN g i v j = if j = i then v else g j := fun _ => rfl
  obtain ⟨h1, h2, h3, h4, h5, h6⟩ := hk
  refine ⟨?_, ?_, ?_, ?_, fun c hc => ?_, fun p hp => ?_⟩
  · rw [e, if_neg (by omega)]; exact h1
  · rw [e, if_neg (by omega)]; exact h2
  · rw [e]; split <;> omega
  · rw [e]; split <;> omega
  · have := h5 c hc
    rw [e, e]
    constructor
    · split <;> omega
    · split <;> omega
  · rw [e, if_neg (by omega), e, if_neg (by omega), e, if_neg (by omega)]
    exact h6 p hp
theorem gok_p {g : Nat → Nat} (hk : gok g) {x y x2 y2 c : Nat} (h1 : x2 < g 0) (h2 : y2 < g 1) (hc : c ≤ 3) : gok (pntG g x y x2 y2 c) := by
  have e : ∀ j, pntG g x y x2 y2 c j = if 12 ≤ j ∧ rct x y x2 y2 (j - 12) = true then c else g j := fun _ => rfl
  have e0 : ∀ j, j < 12 → pntG g x y x2 y2 c j = g j := fun j hj => by rw [e, if_neg (by omega)]
  obtain ⟨a1, a2, a3, a4, a5, a6⟩ := hk
  refine ⟨by rw [e0 0 (by decide)]; exact a1, by rw [e0 1 (by decide)]; exact a2, by rw [e0 2 (by decide)]; exact a3, by rw [e0 3 (by decide)]; exact a4, fun q hq => ?_, fun p hp => ?_⟩
  · rw [e0 _ (by omega), e0 _ (by omega)]; exact a5 q hq
  · rw [e0 0 (by decide), e0 1 (by decide), e, Nat.add_sub_cancel_left]
    split
    · next z =>
      have z := of_decide_eq_true z.2
      exact ⟨hc, fun _ => by omega⟩
    · exact a6 p hp
theorem FRH_q {M M1 : Mem} (h : FRH M M1) {q : Nat} (h1 : q ≠ 38) (h2 : q < 40 ∨ 45 < q) : M1 q = M q := h q h1 h2
theorem x_type {d : Nat} {s : AS} {M : Mem} {c0 : Int32} (hX : XR s M) : Call l α D cA uX9_type (d + 1) [.inr 0, .inl c0] M (PX M (nType s c0)) := by
  refine Call.of kX9_type.1 (Nat.le_of_ble_eq_true rfl) ?_
  obtain ⟨hg, hk, hM⟩ := rec_x hX
  have hn := hX.2.1.2.1
  refine G_iload_n dX9_type_0 rfl rfl ?_
  refine G_iconst (v := (nI 0)) dX9_type_1 (by decide) ?_
  refine G_sipush (v := (nI 255)) dX9_type_2 (by decide) ?_
  refine G_callSi (ν := uX9_within) (As := [.inl c0, .inl (nI 0), .inl (nI 255)]) dX9_type_5 nX9_74 kX9_within rfl rfl rfl (Nat.le_of_ble_eq_true rfl) (c_withinI (lo := 0) (hi := 255)) ?_
  rintro _ M8 ⟨rfl, e9⟩
  subst M8
  refine Gb_if_ne (tgt := 13) dX9_type_8 (by decide) (fun h8 => ?_) (fun h8 => ?_)
  · obtain ⟨c, -, hc, rfl⟩ := inI_nI (dec_iff.mp h8) (by decide) (by decide)
    refine G_aload_n dX9_type_13 rfl rfl ?_
    refine G_getR (j := 3) dX9_type_14 fX9_19 rfl rfl ?_
    refine G_callVi (ν := uX7_length) (As := []) dX9_type_17 nX9_78 kX7_length rfl rfl rfl rfl rfl (Nat.le_of_ble_eq_true rfl) (c_tlength hX.2.1.1) ?_
    rintro _ M8 ⟨rfl, e9⟩
    subst M8
    refine G_bipush (v := (nI 120)) dX9_type_20 (by decide) ?_
    refine Gn_icmp_lt (tgt := 28) dX9_type_22 (by decide) (by omega) (by omega) (fun h22 => ?_) (fun h22 => ?_)
    · refine G_aload_n dX9_type_28 rfl rfl ?_
      refine G_getR (j := 3) dX9_type_29 fX9_19 rfl rfl ?_
      refine G_iload_n dX9_type_32 rfl rfl ?_
      refine G_i2c (v := (nI c)) dX9_type_33 (i2c_nI (by omega)) ?_
      refine G_callVv (ν := uX7_append) (As := [.inl (nI c)]) dX9_type_34 nX9_82 kX7_append rfl rfl rfl rfl rfl (Nat.le_of_ble_eq_true rfl) (c_append hX.2.1 (by omega) hc) ?_
      rintro _ Ma ⟨hFa, hTa⟩
      refine G_aload_n dX9_type_37 rfl rfl ?_
      refine G_getR (j := 3) dX9_type_38 fX9_19 rfl rfl ?_
      refine G_callVi (ν := uX7_length) (As := []) dX9_type_41 nX9_78 kX7_length rfl rfl rfl rfl rfl (Nat.le_of_ble_eq_true rfl) (c_tlength hTa.1) ?_
      rintro _ M8 ⟨rfl, e9⟩
      subst M8
      refine G_iret dX9_type_44 rfl rfl ?_
      rw [nType, cI_t (dec_iff.mp h8), if_neg (by omega), nN (by omega)]
      exact PX_r (XR_T hX hTa hFa) (fun q hq => hFa q (by omega) (by omega))
    · refine G_bipush (v := ((-3))) dX9_type_25 (by decide) ?_
      refine G_iret dX9_type_27 rfl rfl ?_
      rw [nType, cI_t (dec_iff.mp h8), if_pos (by omega)]
      exact PX_r hX (fun _ _ => rfl)
  · refine G_iconst (v := ((-1))) dX9_type_11 (by decide) ?_
    refine G_iret dX9_type_12 rfl rfl ?_
    rw [nType, cI_f (fun q => dec_niff.mp h8 q)]
    exact PX_r hX (fun _ _ => rfl)
theorem x_clear {d : Nat} {s : AS} {M : Mem} (hX : XR s M) : Call l α D cA uX9_clear (d + 1) [.inr 0] M (PX M (nClear s)) := by
  refine Call.of kX9_clear.1 (Nat.le_of_ble_eq_true rfl) ?_
  obtain ⟨hg, hk, hM⟩ := rec_x hX
  refine G_aload_n dX9_clear_0 rfl rfl ?_
  refine G_getR (j := 3) dX9_clear_1 fX9_19 rfl rfl ?_
  refine G_callVi (ν := uX7_length) (As := []) dX9_clear_4 nX9_78 kX7_length rfl rfl rfl rfl rfl (Nat.le_of_ble_eq_true rfl) (c_tlength hX.2.1.1) ?_
  rintro _ M8 ⟨rfl, e9⟩
  subst M8
  refine G_istore_n (L2 := [some (.inr 0), some (.inl (nI (s.1.1)))]) dX9_clear_7 rfl (Nat.le_of_ble_eq_true rfl) rfl ?_
  refine G_aload_n dX9_clear_8 rfl rfl ?_
  refine G_getR (j := 3) dX9_clear_9 fX9_19 rfl rfl ?_
  refine G_callVv (ν := uX7_drop) (As := []) dX9_clear_12 nX9_86 kX7_drop rfl rfl rfl rfl rfl (Nat.le_of_ble_eq_true rfl) (c_tdrop) ?_
  rintro _ M8 e9
  subst M8
  refine G_iload_n dX9_clear_15 rfl rfl ?_
  refine G_iret dX9_clear_16 rfl rfl ?_
  exact PX_r (XR_T hX ⟨by rw [ms_o]; exact upd_k, Nat.zero_le _, fun i hi => absurd hi (Nat.not_lt_zero _)⟩ (fun q a b => ms_q a)) (fun q hq => ms_q (by omega))
theorem x_change {d ix v : Nat} {s : AS} {M : Mem} (hX : XR s M) (hi : (ix = 2 ∧ 1 ≤ v ∧ v ≤ 5) ∨ (ix = 3 ∧ v ≤ 2) ∨ (4 ≤ ix ∧ ix < 8 ∧ v ≤ 1) ∨ (8 ≤ ix ∧ ix < 12 ∧ v ≤ 9)) : Call l α D cA uX9_change (d + 3) [.inr 0, .inl (nI ix), .inl (nI v)] M (PX M (nChange s ix v)) := by
  refine Call.of kX9_change.1 (Nat.le_of_ble_eq_true rfl) ?_
  obtain ⟨hg, hk, hM⟩ := rec_x hX
  obtain ⟨nx, hH⟩ := hX.2.2.2.1
  have h9 := gok_9 hk ix (by omega)
  refine G_aload_n dX9_change_0 rfl rfl ?_
  refine G_getR (j := 1) dX9_change_1 fX9_12 rfl rfl ?_
  refine G_iload_n dX9_change_4 rfl rfl ?_
  refine G_callVi (ν := uX0_get) (As := [.inl (nI ix)]) dX9_change_5 nX9_242 kX0_get rfl rfl rfl rfl rfl (Nat.le_of_ble_eq_true rfl) (c_get (o := 1) (v := 2) rfl rfl (by omega)) ?_
  rintro _ M8 ⟨rfl, e9⟩
  subst M8
  rw [hg ix (by omega)]
  refine G_istore_n (L2 := [some (.inr 0), some (.inl (nI ix)), some (.inl (nI v)), some (.inl (nI (s.2.1 ix)))]) dX9_change_8 rfl (Nat.le_of_ble_eq_true rfl) rfl ?_
  refine G_iload_n dX9_change_9 rfl rfl ?_
  refine G_iload_n dX9_change_10 rfl rfl ?_
  refine Gn_icmp_ne (tgt := 17) dX9_change_11 (by decide) (by omega) (by omega) (fun h11 => ?_) (fun h11 => ?_)
  · refine G_aload_n dX9_change_17 rfl rfl ?_
    refine G_getR (j := 38) dX9_change_18 fX9_61 rfl rfl ?_
    refine G_aload_n dX9_change_21 rfl rfl ?_
    refine G_getR (j := 1) dX9_change_22 fX9_12 rfl rfl ?_
    refine G_callVv (ν := uX2_push) (As := [.inr 1]) dX9_change_25 nX9_93 kX2_push rfl rfl rfl rfl rfl (Nat.le_of_ble_eq_true rfl) (c_push hg hH) ?_
    rintro _ Ma ⟨hFa, hHa⟩
    refine G_aload_n dX9_change_28 rfl rfl ?_
    refine G_getR (j := 1) dX9_change_29 fX9_12 rfl rfl ?_
    refine G_iload_n dX9_change_32 rfl rfl ?_
    refine G_iload_n dX9_change_33 rfl rfl ?_
    refine G_callVv (ν := uX0_set) (As := [.inl (nI ix), .inl (nI v)]) dX9_change_34 nX9_245 kX0_set rfl rfl rfl rfl rfl (Nat.le_of_ble_eq_true rfl) (c_set (o := 1) (v := 2) rfl rfl (by omega)) ?_
    rintro _ M8 e9
    subst M8
    refine G_iload_n dX9_change_37 rfl rfl ?_
    refine G_iret dX9_change_38 rfl rfl ?_
    rw [nChange, if_neg h11]
    refine PX_r (XR_push hX (gok_w hk hi) (TX_3 hX.2.1 ?_ ?_) ?_ ?_ (HX_k hHa ?_ ?_) ?_) ?_
    · rw [mo_q (by decide)]; exact hFa 4 (by decide) (by decide)
    · rw [mo_q (by decide)]; rw [hFa 3 (by decide) (by decide)]
    · intro j hj
      rw [mo_o]
      unfold upd updN
      split
      · rfl
      · rw [hFa 2 (by decide) (by decide)]; exact hg j hj
    · refine MPg_cong (g := s.2.1) (fun p => updN_n (by omega)) (MPg_k hM (fun q a b => ?_))
      rw [mo_q (by omega)]
      exact hFa q (by omega) (by omega)
    · exact mo_q (by decide)
    · exact fun q a b => mo_q (by omega)
    · exact fun q hq => by rw [mo_q (by omega)]; exact hFa q (by omega) (by omega)
    · exact fun q hq => by rw [mo_q (by omega)]; exact hFa q (by omega) (by omega)
  · refine G_bipush (v := ((-2))) dX9_change_14 (by decide) ?_
    refine G_iret dX9_change_16 rfl rfl ?_
    rw [nChange, if_pos h11]
    exact PX_r hX (fun _ _ => rfl)
theorem x_ways {d : Nat} {s : AS} {M : Mem} {c0 w0 : Int32} (hX : XR s M) : Call l α D cA uX9_ways (d + 4) [.inr 0, .inl c0, .inl w0] M (PX M (nWays s c0 w0)) := by
  refine Call.of kX9_ways.1 (Nat.le_of_ble_eq_true rfl) ?_
  obtain ⟨hg, hk, hM⟩ := rec_x hX
  refine G_iload_n dX9_ways_0 rfl rfl ?_
  refine G_iconst (v := (nI 1)) dX9_ways_1 (by decide) ?_
  refine G_iconst (v := (nI 3)) dX9_ways_2 (by decide) ?_
  refine G_callSi (ν := uX9_within) (As := [.inl c0, .inl (nI 1), .inl (nI 3)]) dX9_ways_3 nX9_74 kX9_within rfl rfl rfl (Nat.le_of_ble_eq_true rfl) (c_withinI (lo := 1) (hi := 3)) ?_
  rintro _ M8 ⟨rfl, e9⟩
  subst M8
  refine Gb_if_eq (tgt := 18) dX9_ways_6 (by decide) (fun h6 => ?_) (fun h6 => ?_)
  · refine G_iconst (v := ((-1))) dX9_ways_18 (by decide) ?_
    refine G_iret dX9_ways_19 rfl rfl ?_
    rw [nWays, cI_f (fun q => dec_niff.mp h6 q.1)]
    exact PX_r hX (fun _ _ => rfl)
  · refine G_iload_n dX9_ways_9 rfl rfl ?_
    refine G_iconst (v := (nI 0)) dX9_ways_10 (by decide) ?_
    refine G_iconst (v := (nI 1)) dX9_ways_11 (by decide) ?_
    refine G_callSi (ν := uX9_within) (As := [.inl w0, .inl (nI 0), .inl (nI 1)]) dX9_ways_12 nX9_74 kX9_within rfl rfl rfl (Nat.le_of_ble_eq_true rfl) (c_withinI (lo := 0) (hi := 1)) ?_
    rintro _ M8 ⟨rfl, e9⟩
    subst M8
    refine Gb_if_ne (tgt := 20) dX9_ways_15 (by decide) (fun h15 => ?_) (fun h15 => ?_)
    · obtain ⟨c, hc1, hc3, rfl⟩ := inI_nI (dec_iff.mp h6) (by decide) (by decide)
      obtain ⟨w, -, hw, rfl⟩ := inI_nI (dec_iff.mp h15) (by decide) (by decide)
      refine G_aload_n dX9_ways_20 rfl rfl ?_
      refine G_iconst (v := (nI 4)) dX9_ways_21 (by decide) ?_
      refine G_iload_n dX9_ways_22 rfl rfl ?_
      refine G_iadd (v := (nI (4 + c))) dX9_ways_23 (nI_add _ _) ?_
      refine G_iload_n dX9_ways_24 rfl rfl ?_
      refine G_callVi (ν := uX9_change) (As := [.inl (nI (4 + c)), .inl (nI w)]) dX9_ways_25 nX9_123 kX9_change rfl rfl rfl rfl rfl (Nat.le_of_ble_eq_true rfl) (x_change hX (by omega)) ?_
      rintro _ Ma ⟨rfl, h8, h9⟩
      refine G_iret dX9_ways_28 rfl rfl ?_
      rw [nWays, cI_t ⟨dec_iff.mp h6, dec_iff.mp h15⟩, nN (by omega), nN (by omega)]
      exact PX_r h8 h9
    · refine G_iconst (v := ((-1))) dX9_ways_18 (by decide) ?_
      refine G_iret dX9_ways_19 rfl rfl ?_
      rw [nWays, cI_f (fun q => dec_niff.mp h15 q.2)]
      exact PX_r hX (fun _ _ => rfl)
theorem x_ranks {d : Nat} {s : AS} {M : Mem} {c0 w0 : Int32} (hX : XR s M) : Call l α D cA uX9_ranks (d + 4) [.inr 0, .inl c0, .inl w0] M (PX M (nRanks s c0 w0)) := by
  refine Call.of kX9_ranks.1 (Nat.le_of_ble_eq_true rfl) ?_
  obtain ⟨hg, hk, hM⟩ := rec_x hX
  refine G_iload_n dX9_ranks_0 rfl rfl ?_
  refine G_iconst (v := (nI 1)) dX9_ranks_1 (by decide) ?_
  refine G_iconst (v := (nI 3)) dX9_ranks_2 (by decide) ?_
  refine G_callSi (ν := uX9_within) (As := [.inl c0, .inl (nI 1), .inl (nI 3)]) dX9_ranks_3 nX9_74 kX9_within rfl rfl rfl (Nat.le_of_ble_eq_true rfl) (c_withinI (lo := 1) (hi := 3)) ?_
  rintro _ M8 ⟨rfl, e9⟩
  subst M8
  refine Gb_if_eq (tgt := 19) dX9_ranks_6 (by decide) (fun h6 => ?_) (fun h6 => ?_)
  · refine G_iconst (v := ((-1))) dX9_ranks_19 (by decide) ?_
    refine G_iret dX9_ranks_20 rfl rfl ?_
    rw [nRanks, cI_f (fun q => dec_niff.mp h6 q.1)]
    exact PX_r hX (fun _ _ => rfl)
  · refine G_iload_n dX9_ranks_9 rfl rfl ?_
    refine G_iconst (v := (nI 0)) dX9_ranks_10 (by decide) ?_
    refine G_bipush (v := (nI 9)) dX9_ranks_11 (by decide) ?_
    refine G_callSi (ν := uX9_within) (As := [.inl w0, .inl (nI 0), .inl (nI 9)]) dX9_ranks_13 nX9_74 kX9_within rfl rfl rfl (Nat.le_of_ble_eq_true rfl) (c_withinI (lo := 0) (hi := 9)) ?_
    rintro _ M8 ⟨rfl, e9⟩
    subst M8
    refine Gb_if_ne (tgt := 21) dX9_ranks_16 (by decide) (fun h16 => ?_) (fun h16 => ?_)
    · obtain ⟨c, hc1, hc3, rfl⟩ := inI_nI (dec_iff.mp h6) (by decide) (by decide)
      obtain ⟨w, -, hw, rfl⟩ := inI_nI (dec_iff.mp h16) (by decide) (by decide)
      refine G_aload_n dX9_ranks_21 rfl rfl ?_
      refine G_bipush (v := (nI 8)) dX9_ranks_22 (by decide) ?_
      refine G_iload_n dX9_ranks_24 rfl rfl ?_
      refine G_iadd (v := (nI (8 + c))) dX9_ranks_25 (nI_add _ _) ?_
      refine G_iload_n dX9_ranks_26 rfl rfl ?_
      refine G_callVi (ν := uX9_change) (As := [.inl (nI (8 + c)), .inl (nI w)]) dX9_ranks_27 nX9_123 kX9_change rfl rfl rfl rfl rfl (Nat.le_of_ble_eq_true rfl) (x_change hX (by omega)) ?_
      rintro _ Ma ⟨rfl, h8, h9⟩
      refine G_iret dX9_ranks_30 rfl rfl ?_
      rw [nRanks, cI_t ⟨dec_iff.mp h6, dec_iff.mp h16⟩, nN (by omega), nN (by omega)]
      exact PX_r h8 h9
    · refine G_iconst (v := ((-1))) dX9_ranks_19 (by decide) ?_
      refine G_iret dX9_ranks_20 rfl rfl ?_
      rw [nRanks, cI_f (fun q => dec_niff.mp h16 q.2)]
      exact PX_r hX (fun _ _ => rfl)
theorem x_mosts {d : Nat} {s : AS} {M : Mem} {w0 : Int32} (hX : XR s M) : Call l α D cA uX9_mosts (d + 4) [.inr 0, .inl w0] M (PX M (nMosts s w0)) := by
  refine Call.of kX9_mosts.1 (Nat.le_of_ble_eq_true rfl) ?_
  obtain ⟨hg, hk, hM⟩ := rec_x hX
  refine G_iload_n dX9_mosts_0 rfl rfl ?_
  refine G_iconst (v := (nI 1)) dX9_mosts_1 (by decide) ?_
  refine G_iconst (v := (nI 5)) dX9_mosts_2 (by decide) ?_
  refine G_callSi (ν := uX9_within) (As := [.inl w0, .inl (nI 1), .inl (nI 5)]) dX9_mosts_3 nX9_74 kX9_within rfl rfl rfl (Nat.le_of_ble_eq_true rfl) (c_withinI (lo := 1) (hi := 5)) ?_
  rintro _ M8 ⟨rfl, e9⟩
  subst M8
  refine Gb_if_eq (tgt := 18) dX9_mosts_6 (by decide) (fun h6 => ?_) (fun h6 => ?_)
  · refine G_iconst (v := ((-1))) dX9_mosts_18 (by decide) ?_
    refine G_iret dX9_mosts_19 rfl rfl ?_
    rw [nMosts, cI_f (fun q => dec_niff.mp h6 q)]
    exact PX_r hX (fun _ _ => rfl)
  · obtain ⟨w, hw0, hw, rfl⟩ := inI_nI (dec_iff.mp h6) (by decide) (by decide)
    refine G_aload_n dX9_mosts_9 rfl rfl ?_
    refine G_iconst (v := (nI 2)) dX9_mosts_10 (by decide) ?_
    refine G_iload_n dX9_mosts_11 rfl rfl ?_
    refine G_callVi (ν := uX9_change) (As := [.inl (nI 2), .inl (nI w)]) dX9_mosts_12 nX9_123 kX9_change rfl rfl rfl rfl rfl (Nat.le_of_ble_eq_true rfl) (x_change hX (by omega)) ?_
    rintro _ Ma ⟨rfl, h8, h9⟩
    refine G_goto (tgt := 19) dX9_mosts_15 (by decide) ?_
    refine G_iret dX9_mosts_19 rfl rfl ?_
    rw [nMosts, cI_t (dec_iff.mp h6), nN (by omega)]
    exact PX_r h8 h9
theorem x_pulls {d : Nat} {s : AS} {M : Mem} {w0 : Int32} (hX : XR s M) : Call l α D cA uX9_pulls (d + 4) [.inr 0, .inl w0] M (PX M (nPulls s w0)) := by
  refine Call.of kX9_pulls.1 (Nat.le_of_ble_eq_true rfl) ?_
  obtain ⟨hg, hk, hM⟩ := rec_x hX
  refine G_iload_n dX9_pulls_0 rfl rfl ?_
  refine G_iconst (v := (nI 0)) dX9_pulls_1 (by decide) ?_
  refine G_iconst (v := (nI 2)) dX9_pulls_2 (by decide) ?_
  refine G_callSi (ν := uX9_within) (As := [.inl w0, .inl (nI 0), .inl (nI 2)]) dX9_pulls_3 nX9_74 kX9_within rfl rfl rfl (Nat.le_of_ble_eq_true rfl) (c_withinI (lo := 0) (hi := 2)) ?_
  rintro _ M8 ⟨rfl, e9⟩
  subst M8
  refine Gb_if_eq (tgt := 18) dX9_pulls_6 (by decide) (fun h6 => ?_) (fun h6 => ?_)
  · refine G_iconst (v := ((-1))) dX9_pulls_18 (by decide) ?_
    refine G_iret dX9_pulls_19 rfl rfl ?_
    rw [nPulls, cI_f (fun q => dec_niff.mp h6 q)]
    exact PX_r hX (fun _ _ => rfl)
  · obtain ⟨w, hw0, hw, rfl⟩ := inI_nI (dec_iff.mp h6) (by decide) (by decide)
    refine G_aload_n dX9_pulls_9 rfl rfl ?_
    refine G_iconst (v := (nI 3)) dX9_pulls_10 (by decide) ?_
    refine G_iload_n dX9_pulls_11 rfl rfl ?_
    refine G_callVi (ν := uX9_change) (As := [.inl (nI 3), .inl (nI w)]) dX9_pulls_12 nX9_123 kX9_change rfl rfl rfl rfl rfl (Nat.le_of_ble_eq_true rfl) (x_change hX (by omega)) ?_
    rintro _ Ma ⟨rfl, h8, h9⟩
    refine G_goto (tgt := 19) dX9_pulls_15 (by decide) ?_
    refine G_iret dX9_pulls_19 rfl rfl ?_
    rw [nPulls, cI_t (dec_iff.mp h6), nN (by omega)]
    exact PX_r h8 h9
theorem x_undo {d : Nat} {s : AS} {M : Mem} (hX : XR s M) : Call l α D cA uX9_undo (d + 4) [.inr 0] M (PX M (nUndo s)) := by
  refine Call.of kX9_undo.1 (Nat.le_of_ble_eq_true rfl) ?_
  obtain ⟨hg, hk, hM⟩ := rec_x hX
  obtain ⟨nx, hH⟩ := hX.2.2.2.1
  have hn6 := hH.2.2.2.1
  refine G_aload_n dX9_undo_0 rfl rfl ?_
  refine G_getR (j := 38) dX9_undo_1 fX9_61 rfl rfl ?_
  refine G_callVi (ν := uX2_size) (As := []) dX9_undo_4 nX9_126 kX2_size rfl rfl rfl rfl rfl (Nat.le_of_ble_eq_true rfl) (c_hsize hH.2.1) ?_
  rintro _ M8 ⟨rfl, e9⟩
  subst M8
  refine Gn_if_ne (tgt := 13) dX9_undo_7 (by decide) (by omega) (fun h7 => ?_) (fun h7 => ?_)
  · refine G_aload_n dX9_undo_13 rfl rfl ?_
    refine G_getR (j := 38) dX9_undo_14 fX9_61 rfl rfl ?_
    refine G_aload_n dX9_undo_17 rfl rfl ?_
    refine G_getR (j := 1) dX9_undo_18 fX9_12 rfl rfl ?_
    refine G_callVv (ν := uX2_pop) (As := [.inr 1]) dX9_undo_21 nX9_129 kX2_pop rfl rfl rfl rfl rfl (Nat.le_of_ble_eq_true rfl) (c_pop hH (by omega)) ?_
    rintro _ Ma ⟨hFa, hga, hHa⟩
    have hka := hX.1.2.1 0 (by omega)
    refine G_aload_n dX9_undo_24 rfl rfl ?_
    refine G_getR (j := 8) dX9_undo_25 fX9_33 rfl rfl ?_
    refine G_aload_n dX9_undo_28 rfl rfl ?_
    refine G_getR (j := 1) dX9_undo_29 fX9_12 rfl rfl ?_
    refine G_callVv (ν := uX1_number) (As := [.inr 1]) dX9_undo_32 nX9_104 kX1_number rfl rfl rfl rfl rfl (Nat.le_of_ble_eq_true rfl) (c_number hga (gok_9 hka)) ?_
    rintro _ Mb ⟨hFb, hMb⟩
    refine G_aload_n dX9_undo_35 rfl rfl ?_
    refine G_getR (j := 38) dX9_undo_36 fX9_61 rfl rfl ?_
    refine G_callVi (ν := uX2_size) (As := []) dX9_undo_39 nX9_126 kX2_size rfl rfl rfl rfl rfl (Nat.le_of_ble_eq_true rfl) (c_hsize (x := nI (s.2.2.1.1 - 1)) (by rw [hFb 38 (by decide)]; exact hHa.2.1)) ?_
    rintro _ M8 ⟨rfl, e9⟩
    subst M8
    refine G_iret dX9_undo_42 rfl rfl ?_
    rw [nUndo, if_neg h7]
    refine PX_r ⟨⟨hka, fun i hi => hX.1.2.1 (i + 1) (by have : i < s.2.2.1.1 - 1 := hi; omega), hX.1.2.2⟩, TX_3 hX.2.1 ?_ ?_, ⟨?_, hMb⟩, ⟨_, HX_k hHa (hFb 38 (by decide)) (fun q a b => hFb q (by omega))⟩, SN_k hX.2.2.2.2.1 (fun q a b => ?_), OB_k hX.2.2.2.2.2 (fun q a b => ?_)⟩ (fun q hq => ?_)
    · rw [hFb 4 (by decide), hFa 4 (by decide) (by decide)]
    · rw [hFb 3 (by decide), hFa 3 (by decide) (by decide)]
    · rw [hFb 2 (by decide)]; exact hga
    · rw [hFb q (by omega), hFa q (by omega) (by omega)]
    · rw [hFb q (by omega), hFa q (by omega) (by omega)]
    · rw [hFb q (by omega), hFa q (by omega) (by omega)]
  · refine G_bipush (v := ((-2))) dX9_undo_10 (by decide) ?_
    refine G_iret dX9_undo_12 rfl rfl ?_
    rw [nUndo, if_pos h7]
    exact PX_r hX (fun _ _ => rfl)
theorem x_sees {d : Nat} {s : AS} {M : Mem} {v0 w0 n0 : Int32} (hX : XR s M) : Call l α D cA uX9_sees (d + 2) [.inr 0, .inl v0, .inl w0, .inl n0] M (PX M (nSees s v0 w0 n0)) := by
  refine Call.of kX9_sees.1 (Nat.le_of_ble_eq_true rfl) ?_
  obtain ⟨hg, hk, hM⟩ := rec_x hX
  have hO := hX.2.2.2.2.2
  have hn6 := hO.2.1
  refine G_iload_n dX9_sees_0 rfl rfl ?_
  refine G_iconst (v := (nI 0)) dX9_sees_1 (by decide) ?_
  refine G_iconst (v := (nI 1)) dX9_sees_2 (by decide) ?_
  refine G_callSi (ν := uX9_within) (As := [.inl v0, .inl (nI 0), .inl (nI 1)]) dX9_sees_3 nX9_74 kX9_within rfl rfl rfl (Nat.le_of_ble_eq_true rfl) (c_withinI (lo := 0) (hi := 1)) ?_
  rintro _ M8 ⟨rfl, e9⟩
  subst M8
  refine Gb_if_eq (tgt := 28) dX9_sees_6 (by decide) (fun h6 => ?_) (fun h6 => ?_)
  · refine G_iconst (v := ((-1))) dX9_sees_28 (by decide) ?_
    refine G_iret dX9_sees_29 rfl rfl ?_
    rw [nSees, cI_f (fun q => dec_niff.mp h6 q.1)]
    exact PX_r hX (fun _ _ => rfl)
  · refine G_iload_n dX9_sees_9 rfl rfl ?_
    refine G_iconst (v := (nI 0)) dX9_sees_10 (by decide) ?_
    refine G_iconst (v := (nI 3)) dX9_sees_11 (by decide) ?_
    refine G_callSi (ν := uX9_within) (As := [.inl w0, .inl (nI 0), .inl (nI 3)]) dX9_sees_12 nX9_74 kX9_within rfl rfl rfl (Nat.le_of_ble_eq_true rfl) (c_withinI (lo := 0) (hi := 3)) ?_
    rintro _ M8 ⟨rfl, e9⟩
    subst M8
    refine Gb_if_eq (tgt := 28) dX9_sees_15 (by decide) (fun h15 => ?_) (fun h15 => ?_)
    · refine G_iconst (v := ((-1))) dX9_sees_28 (by decide) ?_
      refine G_iret dX9_sees_29 rfl rfl ?_
      rw [nSees, cI_f (fun q => dec_niff.mp h15 q.2.1)]
      exact PX_r hX (fun _ _ => rfl)
    · refine G_iload_n dX9_sees_18 rfl rfl ?_
      refine G_iconst (v := (nI 0)) dX9_sees_19 (by decide) ?_
      refine G_bipush (v := (nI 99)) dX9_sees_20 (by decide) ?_
      refine G_callSi (ν := uX9_within) (As := [.inl n0, .inl (nI 0), .inl (nI 99)]) dX9_sees_22 nX9_74 kX9_within rfl rfl rfl (Nat.le_of_ble_eq_true rfl) (c_withinI (lo := 0) (hi := 99)) ?_
      rintro _ M8 ⟨rfl, e9⟩
      subst M8
      refine Gb_if_ne (tgt := 30) dX9_sees_25 (by decide) (fun h25 => ?_) (fun h25 => ?_)
      · obtain ⟨v, -, hv, rfl⟩ := inI_nI (dec_iff.mp h6) (by decide) (by decide)
        obtain ⟨w, -, hw, rfl⟩ := inI_nI (dec_iff.mp h15) (by decide) (by decide)
        obtain ⟨n, -, hn, rfl⟩ := inI_nI (dec_iff.mp h25) (by decide) (by decide)
        refine G_aload_n dX9_sees_30 rfl rfl ?_
        refine G_getR (j := 34) dX9_sees_31 fX9_54 rfl rfl ?_
        refine G_callVi (ν := uX3_size) (As := []) dX9_sees_34 nX9_209 kX3_size rfl rfl rfl rfl rfl (Nat.le_of_ble_eq_true rfl) (c_osize hO.1) ?_
        rintro _ M8 ⟨rfl, e9⟩
        subst M8
        refine G_bipush (v := (nI 6)) dX9_sees_37 (by decide) ?_
        refine Gn_icmp_lt (tgt := 45) dX9_sees_39 (by decide) (by omega) (by omega) (fun h39 => ?_) (fun h39 => ?_)
        · refine G_aload_n dX9_sees_45 rfl rfl ?_
          refine G_getR (j := 34) dX9_sees_46 fX9_54 rfl rfl ?_
          refine G_iload_n dX9_sees_49 rfl rfl ?_
          refine G_iload_n dX9_sees_50 rfl rfl ?_
          refine G_iload_n dX9_sees_51 rfl rfl ?_
          refine G_callVv (ν := uX3_add) (As := [.inl (nI v), .inl (nI w), .inl (nI n)]) dX9_sees_52 nX9_210 kX3_add rfl rfl rfl rfl rfl (Nat.le_of_ble_eq_true rfl) (c_oadd hO (by omega) (by omega) (by omega) hn) ?_
          rintro _ Ma ⟨hFa, hOa⟩
          refine G_aload_n dX9_sees_55 rfl rfl ?_
          refine G_getR (j := 34) dX9_sees_56 fX9_54 rfl rfl ?_
          refine G_callVi (ν := uX3_size) (As := []) dX9_sees_59 nX9_209 kX3_size rfl rfl rfl rfl rfl (Nat.le_of_ble_eq_true rfl) (c_osize hOa.1) ?_
          rintro _ M8 ⟨rfl, e9⟩
          subst M8
          refine G_iret dX9_sees_62 rfl rfl ?_
          rw [nSees, cI_t ⟨dec_iff.mp h6, dec_iff.mp h15, dec_iff.mp h25⟩, if_neg (by omega), nN (by omega), nN (by omega), nN (by omega)]
          refine PX_r ⟨hX.1, TX_3 hX.2.1 (hFa 4 (by decide)) (by rw [hFa 3 (by decide)]), ⟨by rw [hFa 2 (by decide)]; exact hg, MPg_k hM (fun q a b => hFa q (by omega))⟩, ⟨_, HX_k hX.2.2.2.1.choose_spec (hFa 38 (by decide)) (fun q a b => hFa q (by omega))⟩, SN_k hX.2.2.2.2.1 (fun q a b => hFa q (by omega)), hOa⟩ (fun q hq => hFa q (by omega))
        · refine G_bipush (v := ((-3))) dX9_sees_42 (by decide) ?_
          refine G_iret dX9_sees_44 rfl rfl ?_
          rw [nSees, cI_t ⟨dec_iff.mp h6, dec_iff.mp h15, dec_iff.mp h25⟩, if_pos (by omega)]
          exact PX_r hX (fun _ _ => rfl)
      · refine G_iconst (v := ((-1))) dX9_sees_28 (by decide) ?_
        refine G_iret dX9_sees_29 rfl rfl ?_
        rw [nSees, cI_f (fun q => dec_niff.mp h25 q.2.2)]
        exact PX_r hX (fun _ _ => rfl)
theorem x_forget {d : Nat} {s : AS} {M : Mem} (hX : XR s M) : Call l α D cA uX9_forget (d + 2) [.inr 0] M (PX M (nForget s)) := by
  refine Call.of kX9_forget.1 (Nat.le_of_ble_eq_true rfl) ?_
  obtain ⟨hg, hk, hM⟩ := rec_x hX
  have hO := hX.2.2.2.2.2
  refine G_aload_n dX9_forget_0 rfl rfl ?_
  refine G_getR (j := 34) dX9_forget_1 fX9_54 rfl rfl ?_
  refine G_callVi (ν := uX3_size) (As := []) dX9_forget_4 nX9_209 kX3_size rfl rfl rfl rfl rfl (Nat.le_of_ble_eq_true rfl) (c_osize hO.1) ?_
  rintro _ M8 ⟨rfl, e9⟩
  subst M8
  refine G_istore_n (L2 := [some (.inr 0), some (.inl (nI (s.2.2.2.2.1)))]) dX9_forget_7 rfl (Nat.le_of_ble_eq_true rfl) rfl ?_
  refine G_aload_n dX9_forget_8 rfl rfl ?_
  refine G_getR (j := 34) dX9_forget_9 fX9_54 rfl rfl ?_
  refine G_callVv (ν := uX3_drop) (As := []) dX9_forget_12 nX9_214 kX3_drop rfl rfl rfl rfl rfl (Nat.le_of_ble_eq_true rfl) (c_odrop) ?_
  rintro _ M8 e9
  subst M8
  refine G_iload_n dX9_forget_15 rfl rfl ?_
  refine G_iret dX9_forget_16 rfl rfl ?_
  have hFa : ∀ q, q ≠ 34 → (ms M 34 3 (nI 0)) q = M q := fun q a => ms_q a
  refine PX_r ⟨hX.1, TX_3 hX.2.1 (hFa 4 (by decide)) (by rw [hFa 3 (by decide)]), ⟨by rw [hFa 2 (by decide)]; exact hg, MPg_k hM (fun q a b => hFa q (by omega))⟩, ⟨_, HX_k hX.2.2.2.1.choose_spec (hFa 38 (by decide)) (fun q a b => hFa q (by omega))⟩, SN_k hX.2.2.2.2.1 (fun q a b => hFa q (by omega)), ⟨by rw [ms_o]; exact upd_k, Nat.zero_le _, fun i hi => absurd hi (Nat.not_lt_zero _)⟩⟩ (fun q hq => hFa q (by omega))
theorem in2 {x : Int32} (h : x < nI 2) : x ≤ nI 1 := by
  rw [Int32.lt_iff_toInt_lt] at h
  rw [Int32.le_iff_toInt_le]
  rw [nI_toInt (by decide)] at h ⊢
  omega
theorem x_keep_0 {d : Nat} {s : AS} {M : Mem} (hX : XR s M) : Call l α D cA uX9_keep (d + 4) [.inr 0, .inl (nI 0)] M (PX M (nKeep s (nI 0))) := by
  refine Call.of kX9_keep.1 (Nat.le_of_ble_eq_true rfl) ?_
  obtain ⟨hg, hk, hM⟩ := rec_x hX
  have hL := labN_48 (g := s.2.1)
  have hS := hX.2.2.2.2.1 0 (by decide)
  refine G_iload_n dX9_keep_0 rfl rfl ?_
  refine Gn_if_lt (tgt := 9) dX9_keep_1 (by decide) (by omega) (fun h1 => ?_) (fun h1 => ?_)
  · omega
  · refine G_iload_n dX9_keep_4 rfl rfl ?_
    refine G_iconst (v := (nI 2)) dX9_keep_5 (by decide) ?_
    refine Gn_icmp_lt (tgt := 11) dX9_keep_6 (by decide) (by omega) (by omega) (fun h6 => ?_) (fun h6 => ?_)
    · refine G_aload_n dX9_keep_11 rfl rfl ?_
      refine G_getR (j := 1) dX9_keep_12 fX9_12 rfl rfl ?_
      refine G_aload_n dX9_keep_15 rfl rfl ?_
      refine G_getR (j := 46) dX9_keep_16 fX9_67 rfl rfl ?_
      refine G_iload_n dX9_keep_19 rfl rfl ?_
      refine G_aald (j := 47) dX9_keep_20 rfl (vp_in_nI (by decide) (by decide)) rfl ?_
      refine G_callVv (ν := uX0_saveTo) (As := [.inr 47]) dX9_keep_21 nX9_219 kX0_saveTo rfl rfl rfl rfl rfl (Nat.le_of_ble_eq_true rfl) (c_saveTo (o := 1) (v := 2) (r := 47) rfl rfl rfl) ?_
      rintro _ M8 e9
      subst M8
      refine G_aload_n dX9_keep_24 rfl rfl ?_
      refine G_getR (j := 49) dX9_keep_25 fX9_70 rfl rfl ?_
      refine G_iload_n dX9_keep_28 rfl rfl ?_
      refine G_iconst (v := (nI 1)) dX9_keep_29 (by decide) ?_
      refine G_zast (k := 0) (v := (nI 1)) dX9_keep_30 rfl (vp_in_nI (by decide) (by decide)) rfl (by decide) ?_
      refine G_aload_n dX9_keep_31 rfl rfl ?_
      refine G_getR (j := 8) dX9_keep_32 fX9_33 rfl rfl ?_
      refine G_callVi (ν := uX1_size) (As := []) dX9_keep_35 nX9_201 kX1_size rfl rfl rfl rfl rfl (Nat.le_of_ble_eq_true rfl) (c_msize (x := nI (labN s.2.1)) hM.2.1) ?_
      rintro _ M8 ⟨rfl, e9⟩
      subst M8
      refine G_iret dX9_keep_38 rfl rfl ?_
      have hqa : ∀ q, (q < 47 ∨ 49 < q) → (ms (mo M 47 (va_cpy (M 2) (M 47) 0 0 60)) 49 0 (nI 1)) q = M q := fun q a => by rw [ms_q (by omega), mo_q (by omega)]
      rw [nKeep, cI_t (inI_of (by decide) (by decide) (by decide)), nN (by decide)]
      refine PX_r ⟨⟨hX.1.1, hX.1.2.1, fun i hi z => ?_⟩, TX_3 hX.2.1 (hqa 4 (by decide)) (by rw [hqa 3 (by decide)]), ⟨by rw [hqa 2 (by decide)]; exact hg, MPg_k hM (fun q a b => hqa q (by omega))⟩, ⟨_, HX_k hX.2.2.2.1.choose_spec (hqa 38 (by decide)) (fun q a b => hqa q (by omega))⟩, fun i hi => ?_, OB_k hX.2.2.2.2.2 (fun q a b => hqa q (by omega))⟩ (fun q hq => hqa q (by omega))
      · show gok (if i = 0 then s.2.1 else s.2.2.2.1.2 i)
        split
        · exact hk
        · next e => exact hX.1.2.2 i hi (by have z : (if i = 0 then true else s.2.2.2.1.1 i) = true := z; rw [if_neg e] at z; exact z)
      · show (ms (mo M 47 _) 49 0 (nI 1)) 49 i = bI (if i = 0 then true else s.2.2.2.1.1 i) ∧ ((if i = 0 then true else s.2.2.2.1.1 i) = true → hC (if i = 0 then s.2.1 else s.2.2.2.1.2 i) ((ms (mo M 47 _) 49 0 (nI 1)) (47 + i)))
        rw [ms_o, ms_q (by omega), mo_q (by decide)]
        by_cases e : i = 0
        · subst e
          rw [if_pos rfl, if_pos rfl, mo_o, upd_k]
          exact ⟨rfl, fun _ => hC_cpy hg⟩
        · rw [if_neg e, if_neg e, upd_n e, mo_q (by omega)]
          exact hX.2.2.2.2.1 i hi
    · omega
theorem x_keep_1 {d : Nat} {s : AS} {M : Mem} (hX : XR s M) : Call l α D cA uX9_keep (d + 4) [.inr 0, .inl (nI 1)] M (PX M (nKeep s (nI 1))) := by
  refine Call.of kX9_keep.1 (Nat.le_of_ble_eq_true rfl) ?_
  obtain ⟨hg, hk, hM⟩ := rec_x hX
  have hL := labN_48 (g := s.2.1)
  have hS := hX.2.2.2.2.1 1 (by decide)
  refine G_iload_n dX9_keep_0 rfl rfl ?_
  refine Gn_if_lt (tgt := 9) dX9_keep_1 (by decide) (by omega) (fun h1 => ?_) (fun h1 => ?_)
  · omega
  · refine G_iload_n dX9_keep_4 rfl rfl ?_
    refine G_iconst (v := (nI 2)) dX9_keep_5 (by decide) ?_
    refine Gn_icmp_lt (tgt := 11) dX9_keep_6 (by decide) (by omega) (by omega) (fun h6 => ?_) (fun h6 => ?_)
    · refine G_aload_n dX9_keep_11 rfl rfl ?_
      refine G_getR (j := 1) dX9_keep_12 fX9_12 rfl rfl ?_
      refine G_aload_n dX9_keep_15 rfl rfl ?_
      refine G_getR (j := 46) dX9_keep_16 fX9_67 rfl rfl ?_
      refine G_iload_n dX9_keep_19 rfl rfl ?_
      refine G_aald (j := 48) dX9_keep_20 rfl (vp_in_nI (by decide) (by decide)) rfl ?_
      refine G_callVv (ν := uX0_saveTo) (As := [.inr 48]) dX9_keep_21 nX9_219 kX0_saveTo rfl rfl rfl rfl rfl (Nat.le_of_ble_eq_true rfl) (c_saveTo (o := 1) (v := 2) (r := 48) rfl rfl rfl) ?_
      rintro _ M8 e9
      subst M8
      refine G_aload_n dX9_keep_24 rfl rfl ?_
      refine G_getR (j := 49) dX9_keep_25 fX9_70 rfl rfl ?_
      refine G_iload_n dX9_keep_28 rfl rfl ?_
      refine G_iconst (v := (nI 1)) dX9_keep_29 (by decide) ?_
      refine G_zast (k := 1) (v := (nI 1)) dX9_keep_30 rfl (vp_in_nI (by decide) (by decide)) rfl (by decide) ?_
      refine G_aload_n dX9_keep_31 rfl rfl ?_
      refine G_getR (j := 8) dX9_keep_32 fX9_33 rfl rfl ?_
      refine G_callVi (ν := uX1_size) (As := []) dX9_keep_35 nX9_201 kX1_size rfl rfl rfl rfl rfl (Nat.le_of_ble_eq_true rfl) (c_msize (x := nI (labN s.2.1)) hM.2.1) ?_
      rintro _ M8 ⟨rfl, e9⟩
      subst M8
      refine G_iret dX9_keep_38 rfl rfl ?_
      have hqa : ∀ q, (q < 47 ∨ 49 < q) → (ms (mo M 48 (va_cpy (M 2) (M 48) 0 0 60)) 49 1 (nI 1)) q = M q := fun q a => by rw [ms_q (by omega), mo_q (by omega)]
      rw [nKeep, cI_t (inI_of (by decide) (by decide) (by decide)), nN (by decide)]
      refine PX_r ⟨⟨hX.1.1, hX.1.2.1, fun i hi z => ?_⟩, TX_3 hX.2.1 (hqa 4 (by decide)) (by rw [hqa 3 (by decide)]), ⟨by rw [hqa 2 (by decide)]; exact hg, MPg_k hM (fun q a b => hqa q (by omega))⟩, ⟨_, HX_k hX.2.2.2.1.choose_spec (hqa 38 (by decide)) (fun q a b => hqa q (by omega))⟩, fun i hi => ?_, OB_k hX.2.2.2.2.2 (fun q a b => hqa q (by omega))⟩ (fun q hq => hqa q (by omega))
      · show gok (if i = 1 then s.2.1 else s.2.2.2.1.2 i)
        split
        · exact hk
        · next e => exact hX.1.2.2 i hi (by have z : (if i = 1 then true else s.2.2.2.1.1 i) = true := z; rw [if_neg e] at z; exact z)
      · show (ms (mo M 48 _) 49 1 (nI 1)) 49 i = bI (if i = 1 then true else s.2.2.2.1.1 i) ∧ ((if i = 1 then true else s.2.2.2.1.1 i) = true → hC (if i = 1 then s.2.1 else s.2.2.2.1.2 i) ((ms (mo M 48 _) 49 1 (nI 1)) (47 + i)))
        rw [ms_o, ms_q (by omega), mo_q (by decide)]
        by_cases e : i = 1
        · subst e
          rw [if_pos rfl, if_pos rfl, mo_o, upd_k]
          exact ⟨rfl, fun _ => hC_cpy hg⟩
        · rw [if_neg e, if_neg e, upd_n e, mo_q (by omega)]
          exact hX.2.2.2.2.1 i hi
    · omega
theorem x_keep_no {d : Nat} {s : AS} {M : Mem} {i0 : Int32} (hX : XR s M) (hi : ¬ inI 0 1 i0) : Call l α D cA uX9_keep (d + 4) [.inr 0, .inl i0] M (PX M (nKeep s i0)) := by
  refine Call.of kX9_keep.1 (Nat.le_of_ble_eq_true rfl) ?_
  refine G_iload_n dX9_keep_0 rfl rfl ?_
  refine G_if_lt (tgt := 9) dX9_keep_1 (by decide) (fun h1 => ?_) (fun h1 => ?_)
  · refine G_iconst (v := ((-1))) dX9_keep_9 (by decide) ?_
    refine G_iret dX9_keep_10 rfl rfl ?_
    rw [nKeep, cI_f hi]
    exact PX_r hX (fun _ _ => rfl)
  · refine G_iload_n dX9_keep_4 rfl rfl ?_
    refine G_iconst (v := (nI 2)) dX9_keep_5 (by decide) ?_
    refine G_icmp_lt (tgt := 11) dX9_keep_6 (by decide) (fun h6 => ?_) (fun h6 => ?_)
    · exact absurd ⟨show nI 0 ≤ i0 by rw [nI_0]; grind, in2 h6⟩ hi
    · refine G_iconst (v := ((-1))) dX9_keep_9 (by decide) ?_
      refine G_iret dX9_keep_10 rfl rfl ?_
      rw [nKeep, cI_f hi]
      exact PX_r hX (fun _ _ => rfl)
theorem x_keep {d : Nat} {s : AS} {M : Mem} {i0 : Int32} (hX : XR s M) : Call l α D cA uX9_keep (d + 4) [.inr 0, .inl i0] M (PX M (nKeep s i0)) := by
  by_cases hi : inI 0 1 i0
  · obtain ⟨j, -, hj, rfl⟩ := inI_nI hi (by decide) (by decide)
    rcases (show j = 0 ∨ j = 1 by omega) with rfl | rfl
    · exact x_keep_0 hX
    · exact x_keep_1 hX
  · exact x_keep_no hX hi
theorem x_back_0 {d : Nat} {s : AS} {M : Mem} (hX : XR s M) : Call l α D cA uX9_back (d + 4) [.inr 0, .inl (nI 0)] M (PX M (nBack s (nI 0))) := by
  refine Call.of kX9_back.1 (Nat.le_of_ble_eq_true rfl) ?_
  obtain ⟨hg, hk, hM⟩ := rec_x hX
  have hL := labN_48 (g := s.2.1)
  have hS := hX.2.2.2.2.1 0 (by decide)
  refine G_iload_n dX9_back_0 rfl rfl ?_
  refine Gn_if_lt (tgt := 9) dX9_back_1 (by decide) (by omega) (fun h1 => ?_) (fun h1 => ?_)
  · omega
  · refine G_iload_n dX9_back_4 rfl rfl ?_
    refine G_iconst (v := (nI 2)) dX9_back_5 (by decide) ?_
    refine Gn_icmp_lt (tgt := 11) dX9_back_6 (by decide) (by omega) (by omega) (fun h6 => ?_) (fun h6 => ?_)
    · refine G_aload_n dX9_back_11 rfl rfl ?_
      refine G_getR (j := 49) dX9_back_12 fX9_70 rfl rfl ?_
      refine G_iload_n dX9_back_15 rfl rfl ?_
      refine G_zald (k := 0) (v := (bI (s.2.2.2.1.1 0))) dX9_back_16 rfl (vp_in_nI (by decide) (by decide)) rfl hS.1 ?_
      refine Gb_if_ne (tgt := 23) dX9_back_17 (by decide) (fun h17 => ?_) (fun h17 => ?_)
      · refine G_aload_n dX9_back_23 rfl rfl ?_
        refine G_getR (j := 1) dX9_back_24 fX9_12 rfl rfl ?_
        refine G_aload_n dX9_back_27 rfl rfl ?_
        refine G_getR (j := 46) dX9_back_28 fX9_67 rfl rfl ?_
        refine G_iload_n dX9_back_31 rfl rfl ?_
        refine G_aald (j := 47) dX9_back_32 rfl (vp_in_nI (by decide) (by decide)) rfl ?_
        refine G_callVv (ν := uX0_loadFrom) (As := [.inr 47]) dX9_back_33 nX9_223 kX0_loadFrom rfl rfl rfl rfl rfl (Nat.le_of_ble_eq_true rfl) (c_loadFrom (o := 1) (v := 2) (r := 47) rfl rfl rfl) ?_
        rintro _ M8 e9
        subst M8
        have hka := hX.1.2.2 0 (by decide) h17
        refine G_aload_n dX9_back_36 rfl rfl ?_
        refine G_getR (j := 38) dX9_back_37 fX9_61 rfl rfl ?_
        refine G_callVv (ν := uX2_drop) (As := []) dX9_back_40 nX9_226 kX2_drop rfl rfl rfl rfl rfl (Nat.le_of_ble_eq_true rfl) (c_hdrop) ?_
        rintro _ M8 e9
        subst M8
        refine G_aload_n dX9_back_43 rfl rfl ?_
        refine G_getR (j := 8) dX9_back_44 fX9_33 rfl rfl ?_
        refine G_aload_n dX9_back_47 rfl rfl ?_
        refine G_getR (j := 1) dX9_back_48 fX9_12 rfl rfl ?_
        refine G_callVv (ν := uX1_number) (As := [.inr 1]) dX9_back_51 nX9_104 kX1_number rfl rfl rfl rfl rfl (Nat.le_of_ble_eq_true rfl) (c_number (g := s.2.2.2.1.2 0) (by rw [ms_q (by decide), mo_o]; exact hC_cpy (hS.2 h17)) (gok_9 hka)) ?_
        rintro _ Mb ⟨hFb, hMb⟩
        have hqb : ∀ q, q ≠ 2 → (q < 8 ∨ 15 < q) → q ≠ 38 → Mb q = M q := fun q a b c => by rw [hFb q b, ms_q c, mo_q a]
        refine G_aload_n dX9_back_54 rfl rfl ?_
        refine G_getR (j := 8) dX9_back_55 fX9_33 rfl rfl ?_
        refine G_callVi (ν := uX1_size) (As := []) dX9_back_58 nX9_201 kX1_size rfl rfl rfl rfl rfl (Nat.le_of_ble_eq_true rfl) (c_msize (x := nI (labN (s.2.2.2.1.2 0))) hMb.2.1) ?_
        rintro _ M8 ⟨rfl, e9⟩
        subst M8
        refine G_iret dX9_back_61 rfl rfl ?_
        obtain ⟨nx, hH⟩ := hX.2.2.2.1
        rw [nBack, cI_t (inI_of (by decide) (by decide) (by decide)), nN (by decide), if_neg (nofalse h17)]
        refine PX_r ⟨⟨hka, fun i hi => absurd hi (Nat.not_lt_zero _), hX.1.2.2⟩, TX_3 hX.2.1 (hqb 4 (by decide) (by decide) (by decide)) (by rw [hqb 3 (by decide) (by decide) (by decide)]), ⟨?_, hMb⟩, ⟨nx, ?_, ?_, hH.2.2.1, Nat.zero_le _, fun i hi => absurd hi (Nat.not_lt_zero _)⟩, SN_k hX.2.2.2.2.1 (fun q a b => hqb q (by omega) (by omega) (by omega)), OB_k hX.2.2.2.2.2 (fun q a b => hqb q (by omega) (by omega) (by omega))⟩ (fun q hq => hqb q (by omega) (by omega) (by omega))
        · rw [hFb 2 (by decide), ms_q (by decide), mo_o]; exact hC_cpy (hS.2 h17)
        · rw [hFb 38 (by decide), ms_o, upd_n (by decide), mo_q (by decide)]; exact hH.1
        · rw [hFb 38 (by decide), ms_o]; exact upd_k
      · refine G_bipush (v := ((-2))) dX9_back_20 (by decide) ?_
        refine G_iret dX9_back_22 rfl rfl ?_
        rw [nBack, cI_t (inI_of (by decide) (by decide) (by decide)), nN (by decide), if_pos h17]
        exact PX_r hX (fun _ _ => rfl)
    · omega
theorem x_back_1 {d : Nat} {s : AS} {M : Mem} (hX : XR s M) : Call l α D cA uX9_back (d + 4) [.inr 0, .inl (nI 1)] M (PX M (nBack s (nI 1))) := by
  refine Call.of kX9_back.1 (Nat.le_of_ble_eq_true rfl) ?_
  obtain ⟨hg, hk, hM⟩ := rec_x hX
  have hL := labN_48 (g := s.2.1)
  have hS := hX.2.2.2.2.1 1 (by decide)
  refine G_iload_n dX9_back_0 rfl rfl ?_
  refine Gn_if_lt (tgt := 9) dX9_back_1 (by decide) (by omega) (fun h1 => ?_) (fun h1 => ?_)
  · omega
  · refine G_iload_n dX9_back_4 rfl rfl ?_
    refine G_iconst (v := (nI 2)) dX9_back_5 (by decide) ?_
    refine Gn_icmp_lt (tgt := 11) dX9_back_6 (by decide) (by omega) (by omega) (fun h6 => ?_) (fun h6 => ?_)
    · refine G_aload_n dX9_back_11 rfl rfl ?_
      refine G_getR (j := 49) dX9_back_12 fX9_70 rfl rfl ?_
      refine G_iload_n dX9_back_15 rfl rfl ?_
      refine G_zald (k := 1) (v := (bI (s.2.2.2.1.1 1))) dX9_back_16 rfl (vp_in_nI (by decide) (by decide)) rfl hS.1 ?_
      refine Gb_if_ne (tgt := 23) dX9_back_17 (by decide) (fun h17 => ?_) (fun h17 => ?_)
      · refine G_aload_n dX9_back_23 rfl rfl ?_
        refine G_getR (j := 1) dX9_back_24 fX9_12 rfl rfl ?_
        refine G_aload_n dX9_back_27 rfl rfl ?_
        refine G_getR (j := 46) dX9_back_28 fX9_67 rfl rfl ?_
        refine G_iload_n dX9_back_31 rfl rfl ?_
        refine G_aald (j := 48) dX9_back_32 rfl (vp_in_nI (by decide) (by decide)) rfl ?_
        refine G_callVv (ν := uX0_loadFrom) (As := [.inr 48]) dX9_back_33 nX9_223 kX0_loadFrom rfl rfl rfl rfl rfl (Nat.le_of_ble_eq_true rfl) (c_loadFrom (o := 1) (v := 2) (r := 48) rfl rfl rfl) ?_
        rintro _ M8 e9
        subst M8
        have hka := hX.1.2.2 1 (by decide) h17
        refine G_aload_n dX9_back_36 rfl rfl ?_
        refine G_getR (j := 38) dX9_back_37 fX9_61 rfl rfl ?_
        refine G_callVv (ν := uX2_drop) (As := []) dX9_back_40 nX9_226 kX2_drop rfl rfl rfl rfl rfl (Nat.le_of_ble_eq_true rfl) (c_hdrop) ?_
        rintro _ M8 e9
        subst M8
        refine G_aload_n dX9_back_43 rfl rfl ?_
        refine G_getR (j := 8) dX9_back_44 fX9_33 rfl rfl ?_
        refine G_aload_n dX9_back_47 rfl rfl ?_
        refine G_getR (j := 1) dX9_back_48 fX9_12 rfl rfl ?_
        refine G_callVv (ν := uX1_number) (As := [.inr 1]) dX9_back_51 nX9_104 kX1_number rfl rfl rfl rfl rfl (Nat.le_of_ble_eq_true rfl) (c_number (g := s.2.2.2.1.2 1) (by rw [ms_q (by decide), mo_o]; exact hC_cpy (hS.2 h17)) (gok_9 hka)) ?_
        rintro _ Mb ⟨hFb, hMb⟩
        have hqb : ∀ q, q ≠ 2 → (q < 8 ∨ 15 < q) → q ≠ 38 → Mb q = M q := fun q a b c => by rw [hFb q b, ms_q c, mo_q a]
        refine G_aload_n dX9_back_54 rfl rfl ?_
        refine G_getR (j := 8) dX9_back_55 fX9_33 rfl rfl ?_
        refine G_callVi (ν := uX1_size) (As := []) dX9_back_58 nX9_201 kX1_size rfl rfl rfl rfl rfl (Nat.le_of_ble_eq_true rfl) (c_msize (x := nI (labN (s.2.2.2.1.2 1))) hMb.2.1) ?_
        rintro _ M8 ⟨rfl, e9⟩
        subst M8
        refine G_iret dX9_back_61 rfl rfl ?_
        obtain ⟨nx, hH⟩ := hX.2.2.2.1
        rw [nBack, cI_t (inI_of (by decide) (by decide) (by decide)), nN (by decide), if_neg (nofalse h17)]
        refine PX_r ⟨⟨hka, fun i hi => absurd hi (Nat.not_lt_zero _), hX.1.2.2⟩, TX_3 hX.2.1 (hqb 4 (by decide) (by decide) (by decide)) (by rw [hqb 3 (by decide) (by decide) (by decide)]), ⟨?_, hMb⟩, ⟨nx, ?_, ?_, hH.2.2.1, Nat.zero_le _, fun i hi => absurd hi (Nat.not_lt_zero _)⟩, SN_k hX.2.2.2.2.1 (fun q a b => hqb q (by omega) (by omega) (by omega)), OB_k hX.2.2.2.2.2 (fun q a b => hqb q (by omega) (by omega) (by omega))⟩ (fun q hq => hqb q (by omega) (by omega) (by omega))
        · rw [hFb 2 (by decide), ms_q (by decide), mo_o]; exact hC_cpy (hS.2 h17)
        · rw [hFb 38 (by decide), ms_o, upd_n (by decide), mo_q (by decide)]; exact hH.1
        · rw [hFb 38 (by decide), ms_o]; exact upd_k
      · refine G_bipush (v := ((-2))) dX9_back_20 (by decide) ?_
        refine G_iret dX9_back_22 rfl rfl ?_
        rw [nBack, cI_t (inI_of (by decide) (by decide) (by decide)), nN (by decide), if_pos h17]
        exact PX_r hX (fun _ _ => rfl)
    · omega
theorem x_back_no {d : Nat} {s : AS} {M : Mem} {i0 : Int32} (hX : XR s M) (hi : ¬ inI 0 1 i0) : Call l α D cA uX9_back (d + 4) [.inr 0, .inl i0] M (PX M (nBack s i0)) := by
  refine Call.of kX9_back.1 (Nat.le_of_ble_eq_true rfl) ?_
  refine G_iload_n dX9_back_0 rfl rfl ?_
  refine G_if_lt (tgt := 9) dX9_back_1 (by decide) (fun h1 => ?_) (fun h1 => ?_)
  · refine G_iconst (v := ((-1))) dX9_back_9 (by decide) ?_
    refine G_iret dX9_back_10 rfl rfl ?_
    rw [nBack, cI_f hi]
    exact PX_r hX (fun _ _ => rfl)
  · refine G_iload_n dX9_back_4 rfl rfl ?_
    refine G_iconst (v := (nI 2)) dX9_back_5 (by decide) ?_
    refine G_icmp_lt (tgt := 11) dX9_back_6 (by decide) (fun h6 => ?_) (fun h6 => ?_)
    · exact absurd ⟨show nI 0 ≤ i0 by rw [nI_0]; grind, in2 h6⟩ hi
    · refine G_iconst (v := ((-1))) dX9_back_9 (by decide) ?_
      refine G_iret dX9_back_10 rfl rfl ?_
      rw [nBack, cI_f hi]
      exact PX_r hX (fun _ _ => rfl)
theorem x_back {d : Nat} {s : AS} {M : Mem} {i0 : Int32} (hX : XR s M) : Call l α D cA uX9_back (d + 4) [.inr 0, .inl i0] M (PX M (nBack s i0)) := by
  by_cases hi : inI 0 1 i0
  · obtain ⟨j, -, hj, rfl⟩ := inI_nI hi (by decide) (by decide)
    rcases (show j = 0 ∨ j = 1 by omega) with rfl | rfl
    · exact x_back_0 hX
    · exact x_back_1 hX
  · exact x_back_no hX hi
theorem c_told {d : Nat} {M : Mem} : Call l α D cA uX4_told d [.inr 5] M (fun r M1 => r = .inr 6 ∧ M1 = M) := by
  refine Call.of kX4_told.1 (Nat.le_of_ble_eq_true rfl) ?_
  refine G_aload_n dX4_told_0 rfl rfl ?_
  refine G_getR (j := 6) dX4_told_1 fX4_12 rfl rfl ?_
  refine G_aret dX4_told_4 rfl (Or.inl ⟨_, rfl⟩) ?_
  exact ⟨rfl, rfl⟩
theorem x_tells {d : Nat} {s : AS} {M : Mem} (hX : XR s M) : Call l α D cA uX9_tells (d + 7) [.inr 0] M (PX M (nTells s)) := by
  refine Call.of kX9_tells.1 (Nat.le_of_ble_eq_true rfl) ?_
  obtain ⟨hg, hk, hM⟩ := rec_x hX
  obtain ⟨nx, hH⟩ := hX.2.2.2.1
  have hTX := hX.2.1
  refine G_aload_n dX9_tells_0 rfl rfl ?_
  refine G_getR (j := 5) dX9_tells_1 fX9_26 rfl rfl ?_
  refine G_aload_n dX9_tells_4 rfl rfl ?_
  refine G_getR (j := 3) dX9_tells_5 fX9_19 rfl rfl ?_
  refine G_callVi (ν := uX4_read) (As := [.inr 3]) dX9_tells_8 nX9_89 kX4_read rfl rfl rfl rfl rfl (Nat.le_of_ble_eq_true rfl) (c_read hTX) ?_
  rintro _ Ma ⟨hFa, -, hq⟩
  obtain ⟨rfl, hga, hVa⟩ := hq _ rfl
  have hit : (pT s).2.1 ≤ 0 + 120 := pRd_le _ _ _
  have htk : tkS s.1.1 s.1.2 (pT s).2.2.1 ≤ 120 := by
    have a := tkE_in (n := s.1.1) (t := s.1.2) hVa.1
    exact Nat.le_trans a.2.2.1 (Nat.le_trans a.1 hTX.2.1)
  rw [show pRd s.1.1 s.1.2 120 0 (0, gS, 0) = pT s from rfl]
  by_cases hb : ((pT s).1 = false ∨ (pT s).2.2.2.2 = 0)
  · rw [if_pos hb]
    refine G_istore_n (L2 := [some (.inr 0), some (.inl (-10 - nI (tkS s.1.1 s.1.2 (pT s).2.2.1)))]) dX9_tells_11 rfl (Nat.le_of_ble_eq_true rfl) rfl ?_
    refine G_iload_n dX9_tells_12 rfl rfl ?_
    refine G_if_ge (tgt := 18) dX9_tells_13 (by decide) (fun h13 => ?_) (fun h13 => ?_)
    · exact absurd h13 (neg10 htk)
    · refine G_iload_n dX9_tells_16 rfl rfl ?_
      refine G_iret dX9_tells_17 rfl rfl ?_
      rw [nTells, if_pos hb]
      exact PX_r (show XR s _ from by
        obtain ⟨g0, g1, ⟨g2, g3⟩, ⟨g4, g5⟩, g6, g7⟩ := hX
        exact ⟨g0, TX_R g1 hFa, ⟨by rw [hFa.1 2 (by decide) (by decide) (by decide)]; exact g2, MPg_k g3 (fun q a b => hFa.1 q (by omega) (by omega) (by omega))⟩, ⟨g4, HX_k g5 (hFa.1 38 (by decide) (by decide) (by decide)) (fun q a b => hFa.1 q (by omega) (by omega) (by omega))⟩, SN_k g6 (fun q a b => hFa.1 q (by omega) (by omega) (by omega)), OB_k g7 (fun q a b => hFa.1 q (by omega) (by omega) (by omega))⟩) (fun q hq => hFa.1 q (by omega) (by omega) (by omega))
  · rw [if_neg hb]
    refine G_istore_n (L2 := [some (.inr 0), some (.inl (nI ((pT s).2.1)))]) dX9_tells_11 rfl (Nat.le_of_ble_eq_true rfl) rfl ?_
    refine G_iload_n dX9_tells_12 rfl rfl ?_
    refine Gn_if_ge (tgt := 18) dX9_tells_13 (by decide) (by omega) (fun h13 => ?_) (fun h13 => ?_)
    · refine G_aload_n dX9_tells_18 rfl rfl ?_
      refine G_getR (j := 38) dX9_tells_19 fX9_61 rfl rfl ?_
      refine G_aload_n dX9_tells_22 rfl rfl ?_
      refine G_getR (j := 1) dX9_tells_23 fX9_12 rfl rfl ?_
      refine G_callVv (ν := uX2_push) (As := [.inr 1]) dX9_tells_26 nX9_93 kX2_push rfl rfl rfl rfl rfl (Nat.le_of_ble_eq_true rfl) (c_push (g := s.2.1) (by rw [hFa.1 2 (by decide) (by decide) (by decide)]; exact hg) (HX_k hH (hFa.1 38 (by decide) (by decide) (by decide)) (fun q a b => hFa.1 q (by omega) (by omega) (by omega)))) ?_
      rintro _ Mb ⟨hFb, hHb⟩
      refine G_aload_n dX9_tells_29 rfl rfl ?_
      refine G_getR (j := 1) dX9_tells_30 fX9_12 rfl rfl ?_
      refine G_aload_n dX9_tells_33 rfl rfl ?_
      refine G_getR (j := 5) dX9_tells_34 fX9_26 rfl rfl ?_
      refine G_callVi (ν := uX4_told) (As := []) dX9_tells_37 nX9_97 kX4_told rfl rfl rfl rfl rfl (Nat.le_of_ble_eq_true rfl) (c_told) ?_
      rintro _ M8 ⟨rfl, e9⟩
      subst M8
      refine G_callVv (ν := uX0_copy) (As := [.inr 6]) dX9_tells_40 nX9_101 kX0_copy rfl rfl rfl rfl rfl (Nat.le_of_ble_eq_true rfl) (c_copy (o := 1) (v := 2) (o2 := 6) (r := 7) rfl rfl rfl rfl) ?_
      rintro _ M8 e9
      subst M8
      refine G_aload_n dX9_tells_43 rfl rfl ?_
      refine G_getR (j := 3) dX9_tells_44 fX9_19 rfl rfl ?_
      refine G_callVv (ν := uX7_drop) (As := []) dX9_tells_47 nX9_86 kX7_drop rfl rfl rfl rfl rfl (Nat.le_of_ble_eq_true rfl) (c_tdrop) ?_
      rintro _ M8 e9
      subst M8
      have hk2 : gok (pT s).2.2.2.1 := PG_gok hVa.2 (fun e => hb (Or.inr e))
      refine G_aload_n dX9_tells_50 rfl rfl ?_
      refine G_getR (j := 8) dX9_tells_51 fX9_33 rfl rfl ?_
      refine G_aload_n dX9_tells_54 rfl rfl ?_
      refine G_getR (j := 1) dX9_tells_55 fX9_12 rfl rfl ?_
      refine G_callVv (ν := uX1_number) (As := [.inr 1]) dX9_tells_58 nX9_104 kX1_number rfl rfl rfl rfl rfl (Nat.le_of_ble_eq_true rfl) (c_number (g := (pT s).2.2.2.1) (by rw [ms_q (by decide), mo_o, hFb 7 (by decide) (by decide)]; exact hC_cpy hga) (gok_9 hk2)) ?_
      rintro _ Mc ⟨hFc, hMc⟩
      have hqc : ∀ q, (q < 8 ∨ 15 < q) → q ≠ 2 → q ≠ 3 → q ≠ 5 → q ≠ 7 → q ≠ 38 → (q < 40 ∨ 45 < q) → Mc q = M q := fun q a b c e f i j => by rw [hFc q a, ms_q c, mo_q b, hFb q i j, hFa.1 q c e f]
      refine G_iload_n dX9_tells_61 rfl rfl ?_
      refine G_iret dX9_tells_62 rfl rfl ?_
      rw [nTells, if_neg hb]
      refine PX_r (XR_push hX hk2 (n' := 0) (t' := s.1.2) ⟨?_, Nat.zero_le _, fun i hi => absurd hi (Nat.not_lt_zero _)⟩ ?_ hMc (HX_k hHb ?_ ?_) ?_) (fun q hq => hqc q (by omega) (by omega) (by omega) (by omega) (by omega) (by omega) (by omega))
      · rw [hFc 3 (by decide), ms_o]; exact upd_k
      · rw [hFc 2 (by decide), ms_q (by decide), mo_o, hFb 7 (by decide) (by decide)]; exact hC_cpy hga
      · rw [hFc 38 (by decide), ms_q (by decide), mo_q (by decide)]
      · exact fun q a b => by rw [hFc q (by omega), ms_q (by omega), mo_q (by omega)]
      · exact fun q hq => hqc q (by omega) (by omega) (by omega) (by omega) (by omega) (by omega) (by omega)
    · omega
end P26
