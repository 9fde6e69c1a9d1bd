/-! The reference: the text is read -/
section P41
variable {l : Launch} {α : Nat → Nat} {D : va_G} {cA : Nat → ClassId}
def FPz (M M1 : Mem) : Prop := (∀ q, q ≠ 50 → q ≠ 52 → M1 q = M q) ∧ ∀ j, (j < 11 ∨ 14 < j) → M1 50 j = M 50 j
theorem FPz_r {M : Mem} : FPz M M := ⟨fun _ _ _ => rfl, fun _ _ => rfl⟩
theorem FPz_t {M M1 M2 : Mem} (h : FPz M M1) (h2 : FPz M1 M2) : FPz M M2 := ⟨fun q a b => (h2.1 q a b).trans (h.1 q a b), fun j a => (h2.2 j a).trans (h.2 j a)⟩
theorem FPz_K {M M1 : Mem} (h : FK M M1) : FPz M M1 := ⟨fun q a _ => h.1 q a, fun j a => h.2 j (by omega) (by omega) (by omega)⟩
theorem FPz_14 {M M1 : Mem} {v : Int32} (h : FPz M M1) : FPz M (ms M1 50 14 v) := ⟨fun q a b => by rw [ms_q a]; exact h.1 q a b, fun j a => by rw [ms_o, upd_n (by omega)]; exact h.2 j a⟩
theorem FPz_52 {M M1 : Mem} {k : Nat} {v : Int32} (h : FPz M M1) : FPz M (ms M1 52 k v) := ⟨fun q a b => by rw [ms_q b]; exact h.1 q a b, fun j a => by rw [ms_q (by decide)]; exact h.2 j a⟩
theorem TB_z {n : Nat} {t : Nat → Nat} {M M1 : Mem} (h : TBm n t M) (hF : FPz M M1) : TBm n t M1 := by
  unfold TBm
  rw [hF.2 10 (by decide), hF.1 57 (by decide) (by decide)]
  exact h
/-- the draft holds r rows of the cloth g -/
def DR (g : Nat → Nat) (r : Nat) (f : Nat → Int32) : Prop := f 0 = nI (if r = 0 then 0 else g 0) ∧ f 1 = nI r ∧ (∀ j, 2 ≤ j → j < 12 → f j = nI (g j)) ∧ (r ≠ 0 → ∀ c, c < g 0 * r → f (12 + c) = nI (g (12 + pl (g 0) c)))
def DSm (n : Nat) (t : Nat → Nat) (s : RT) (M : Mem) : Prop := TKm n t s.1 M ∧ M 50 14 = -9 ∧ DR s.2.1 s.2.2 (M 52)
def STm (n : Nat) (t : Nat → Nat) (p : Bool × RT) (M : Mem) : Prop := if p.1 = true then DSm n t p.2 M else TKm n t p.2.1 M ∧ M 50 14 = nI (tkS n t p.2.1)
theorem STm_t {n : Nat} {t : Nat → Nat} {s : RT} {M : Mem} (h : DSm n t s M) : STm n t (true, s) M := by
  unfold STm
  rw [if_pos rfl]
  exact h
theorem STm_f {n : Nat} {t : Nat → Nat} {s : RT} {M : Mem} (h : TKm n t s.1 M) (h2 : M 50 14 = nI (tkS n t s.1)) : STm n t (false, s) M := by
  unfold STm
  simp only [Bool.false_eq_true, if_false]
  exact ⟨h, h2⟩
theorem TK_14 {n : Nat} {t : Nat → Nat} {i : Nat} {M : Mem} {v : Int32} (h : TKm n t i M) : TKm n t i (ms M 50 14 v) := by
  unfold TKm
  rw [ms_o, upd_n (by decide), upd_n (by decide), upd_n (by decide)]
  exact h
theorem TK_52 {n : Nat} {t : Nat → Nat} {i k : Nat} {M : Mem} {v : Int32} (h : TKm n t i M) : TKm n t i (ms M 52 k v) := by
  unfold TKm
  rw [ms_q (by decide)]
  exact h
theorem mW_8 {t : Nat → Nat} {s e : Nat} : (1 ≤ mW t s e ∧ mW t s e ≤ 5) ∨ mW t s e = 8 := by
  unfold mW
  split
  · omega
  · split
    · omega
    · split
      · omega
      · split
        · omega
        · split <;> omega
theorem mtk_8 {n : Nat} {t : Nat → Nat} {i : Nat} : mtk n t i ≤ 8 := by
  have := mW_8 (t := t) (s := tkS n t i) (e := tkE n t i)
  unfold mtk
  split
  · omega
  · split
    · omega
    · split
      · omega
      · split <;> omega
theorem mtk_6 {n : Nat} {t : Nat → Nat} {i : Nat} (h : mtk n t i = 6) : tkK n t i = 3 := by
  have := mW_8 (t := t) (s := tkS n t i) (e := tkE n t i)
  unfold mtk at h
  split at h
  · omega
  · split at h
    · assumption
    · split at h
      · omega
      · split at h <;> omega
theorem mtk_7 {n : Nat} {t : Nat → Nat} {i : Nat} : mtk n t i = 7 ↔ tkK n t i = 4 := by
  have := mW_8 (t := t) (s := tkS n t i) (e := tkE n t i)
  constructor
  · intro h
    unfold mtk at h
    split at h
    · omega
    · split at h
      · omega
      · split at h
        · omega
        · split at h
          · assumption
          · omega
  · exact mtk_4
theorem mtk_z {n : Nat} {t : Nat → Nat} {i : Nat} : mtk n t i = 0 ↔ tkK n t i = 0 := by
  have := mW_8 (t := t) (s := tkS n t i) (e := tkE n t i)
  constructor
  · intro h
    unfold mtk at h
    split at h
    · assumption
    · split at h
      · omega
      · split at h
        · omega
        · split at h <;> omega
  · exact mtk_0
/-- a token of digits -/
theorem tk_dig {n : Nat} {t : Nat → Nat} {i : Nat} (hi : i ≤ n) (h : tkK n t i = 3) : tkS n t i < n ∧ tkS n t i < tkE n t i ∧ tkE n t i ≤ n ∧ ∀ x, tkS n t i ≤ x → x < tkE n t i → 48 ≤ t x ∧ t x ≤ 57 := by
  obtain ⟨f1, f2, f3, f4, f5⟩ := tok_TF (n := n) (t := t) hi
  have := f5 (by omega)
  exact ⟨by omega, this, f2, f4 h⟩
theorem isDt_iff {n : Nat} {t : Nat → Nat} {i lo hi : Nat} : isDt n t i 1 1 lo hi = true ↔ tkK n t i = 3 ∧ tkE n t i - tkS n t i = 1 ∧ lo ≤ t (tkS n t i) - 48 ∧ t (tkS n t i) - 48 ≤ hi := by
  unfold isDt isD
  rw [dec_iff]
  constructor
  · rintro ⟨h1, h2, h3⟩
    have := h3 0 (by omega)
    exact ⟨h1, by omega, this⟩
  · rintro ⟨h1, h2, h3⟩
    refine ⟨h1, by omega, fun j hj => ?_⟩
    rw [show j = 0 by omega]
    exact h3
theorem y_takes_t {d : Nat} {n i : Nat} {t : Nat → Nat} {M : Mem} (hT : TBm n t M) (hi : i ≤ n) (hK : TKm n t i M) (h14 : M 50 14 = -9) : Call l α D cA uX10_takes (d + 4) [.inr 50, .inl (nI 1)] M (fun _ M1 => FK M M1 ∧ TKm n t (tkE n t i) M1) := by
  refine Call.of kX10_takes.1 (Nat.le_of_ble_eq_true rfl) ?_
  refine G_aload_n dX10_takes_0 rfl rfl ?_
  refine G_getI (v := ((-9))) dX10_takes_1 fX10_113 rfl rfl h14 ?_
  refine G_bipush (v := ((-9))) dX10_takes_4 (by decide) ?_
  refine G_icmp_ne (tgt := 28) dX10_takes_6 (by decide) (fun h6 => ?_) (fun h6 => ?_)
  · exact absurd rfl h6
  · refine G_iload_n dX10_takes_9 rfl rfl ?_
    refine Gn_if_eq (tgt := 20) dX10_takes_10 (by decide) (by omega) (fun h10 => ?_) (fun h10 => ?_)
    · omega
    · refine G_aload_n dX10_takes_13 rfl rfl ?_
      refine G_callVv (ν := uX10_steps) (As := []) dX10_takes_14 nX10_116 kX10_steps rfl rfl rfl rfl rfl (Nat.le_of_ble_eq_true rfl) (y_tok hT (tkE_in hi).1 hK.2.1) ?_
      rintro _ M2 ⟨hF2, hK2⟩
      refine G_goto (tgt := 28) dX10_takes_17 (by decide) ?_
      refine G_vret dX10_takes_28 rfl ?_
      exact ⟨hF2, hK2⟩
theorem y_takes_f {d i n : Nat} {t : Nat → Nat} {M : Mem} (hK : TKm n t i M) (h14 : M 50 14 = -9) : Call l α D cA uX10_takes d [.inr 50, .inl (nI 0)] M (fun _ M1 => M1 = ms M 50 14 (nI (tkS n t i))) := by
  refine Call.of kX10_takes.1 (Nat.le_of_ble_eq_true rfl) ?_
  refine G_aload_n dX10_takes_0 rfl rfl ?_
  refine G_getI (v := ((-9))) dX10_takes_1 fX10_113 rfl rfl h14 ?_
  refine G_bipush (v := ((-9))) dX10_takes_4 (by decide) ?_
  refine G_icmp_ne (tgt := 28) dX10_takes_6 (by decide) (fun h6 => ?_) (fun h6 => ?_)
  · exact absurd rfl h6
  · refine G_iload_n dX10_takes_9 rfl rfl ?_
    refine Gn_if_eq (tgt := 20) dX10_takes_10 (by decide) (by omega) (fun h10 => ?_) (fun h10 => ?_)
    · refine G_aload_n dX10_takes_20 rfl rfl ?_
      refine G_aload_n dX10_takes_21 rfl rfl ?_
      refine G_getI (v := (nI (tkS n t i))) dX10_takes_22 fX10_95 rfl rfl hK.1 ?_
      refine G_put dX10_takes_25 pX10_113 rfl rfl ?_
      refine G_vret dX10_takes_28 rfl ?_
      rfl
    · omega
theorem y_takes_e {d p : Nat} {x : Int32} {M : Mem} (h14 : M 50 14 = nI p) (hp : p < 2 ^ 31) : Call l α D cA uX10_takes d [.inr 50, .inl x] M (fun _ M1 => M1 = M) := by
  refine Call.of kX10_takes.1 (Nat.le_of_ble_eq_true rfl) ?_
  refine G_aload_n dX10_takes_0 rfl rfl ?_
  refine G_getI (v := (nI p)) dX10_takes_1 fX10_113 rfl rfl h14 ?_
  refine G_bipush (v := ((-9))) dX10_takes_4 (by decide) ?_
  refine G_icmp_ne (tgt := 28) dX10_takes_6 (by decide) (fun h6 => ?_) (fun h6 => ?_)
  · refine G_vret dX10_takes_28 rfl ?_
    rfl
  · exact absurd h6 (no9 hp)
theorem y_fig_ok {d lo hi2 : Nat} {n i : Nat} {t : Nat → Nat} {M : Mem} (hT : TBm n t M) (hi : i ≤ n) (hK : TKm n t i M) (h14 : M 50 14 = -9) (hlo : lo ≤ 9) (hhi : hi2 ≤ 9) (hD : isDt n t i 1 1 lo hi2 = true) : Call l α D cA uX10_figure (d + 5) [.inr 50, .inl (nI lo), .inl (nI hi2)] M (fun r M1 => r = .inl (nI (dg n t i)) ∧ FK M M1 ∧ TKm n t (tkE n t i) M1) := by
  refine Call.of kX10_figure.1 (Nat.le_of_ble_eq_true rfl) ?_
  have hn := hT.2.1
  obtain ⟨d1, d2, d3, d4⟩ := isDt_iff.mp hD
  obtain ⟨f1, f2, f3, f4⟩ := tk_dig hi d1
  have f5 := f4 _ (Nat.le_refl _) f2
  refine G_aload_n dX10_figure_0 rfl rfl ?_
  refine G_aload_n dX10_figure_1 rfl rfl ?_
  refine G_getI (v := (nI (tkS n t i))) dX10_figure_2 fX10_95 rfl rfl hK.1 ?_
  refine G_callVi (ν := uX10_at) (As := [.inl (nI (tkS n t i))]) dX10_figure_5 nX10_98 kX10_at rfl rfl rfl rfl rfl (Nat.le_of_ble_eq_true rfl) (y_at_in hT f1) ?_
  rintro _ M8 ⟨rfl, e9⟩
  subst M8
  refine G_bipush (v := (nI 48)) dX10_figure_8 (by decide) ?_
  refine G_isub (v := (nI ((t (tkS n t i)) - 48))) dX10_figure_10 (pk_sub (by omega)) ?_
  refine G_istore_n (L2 := [some (.inr 50), some (.inl (nI lo)), some (.inl (nI hi2)), some (.inl (nI ((t (tkS n t i)) - 48)))]) dX10_figure_11 rfl (Nat.le_of_ble_eq_true rfl) rfl ?_
  refine G_aload_n dX10_figure_12 rfl rfl ?_
  refine G_aload_n dX10_figure_13 rfl rfl ?_
  refine G_getI (v := (nI 6)) dX10_figure_14 fX10_106 rfl rfl (hK.2.2.trans (by rw [mtk_3 d1])) ?_
  refine G_bipush (v := (nI 6)) dX10_figure_17 (by decide) ?_
  refine Gn_icmp_ne (tgt := 48) dX10_figure_19 (by decide) (by omega) (by omega) (fun h19 => ?_) (fun h19 => ?_)
  · omega
  · refine G_aload_n dX10_figure_22 rfl rfl ?_
    refine G_getI (v := (nI (tkE n t i))) dX10_figure_23 fX10_92 rfl rfl hK.2.1 ?_
    refine G_aload_n dX10_figure_26 rfl rfl ?_
    refine G_getI (v := (nI (tkS n t i))) dX10_figure_27 fX10_95 rfl rfl hK.1 ?_
    refine G_isub (v := (nI ((tkE n t i) - (tkS n t i)))) dX10_figure_30 (pk_sub (by omega)) ?_
    refine G_iconst (v := (nI 1)) dX10_figure_31 (by decide) ?_
    refine Gn_icmp_ne (tgt := 48) dX10_figure_32 (by decide) (by omega) (by omega) (fun h32 => ?_) (fun h32 => ?_)
    · omega
    · refine G_iload_n dX10_figure_35 rfl rfl ?_
      refine G_iload_n dX10_figure_36 rfl rfl ?_
      refine G_iload_n dX10_figure_37 rfl rfl ?_
      refine G_callSi (ν := uX10_in) (As := [.inl (nI ((t (tkS n t i)) - 48)), .inl (nI lo), .inl (nI hi2)]) dX10_figure_38 nX10_85 kX10_in rfl rfl rfl (Nat.le_of_ble_eq_true rfl) (y_inI (lo := lo) (hi := hi2)) ?_
      rintro _ M8 ⟨rfl, e9⟩
      subst M8
      refine Gb_if_eq (tgt := 48) dX10_figure_41 (by decide) (fun h41 => ?_) (fun h41 => ?_)
      · exact absurd (inI_of d3 d4 (by omega)) (dec_niff.mp h41)
      · refine G_iconst (v := (nI 1)) dX10_figure_44 (by decide) ?_
        refine G_goto (tgt := 49) dX10_figure_45 (by decide) ?_
        refine G_callVv (ν := uX10_takes) (As := [.inl (nI 1)]) dX10_figure_49 nX10_119 kX10_takes rfl rfl rfl rfl rfl (Nat.le_of_ble_eq_true rfl) (y_takes_t hT hi hK h14) ?_
        rintro _ M2 ⟨hF2, hK2⟩
        refine G_iload_n dX10_figure_52 rfl rfl ?_
        refine G_iret dX10_figure_53 rfl rfl ?_
        exact ⟨rfl, hF2, hK2⟩
theorem y_fig_no {d lo hi2 : Nat} {n i : Nat} {t : Nat → Nat} {M : Mem} (hT : TBm n t M) (hi : i ≤ n) (hK : TKm n t i M) (h14 : M 50 14 = -9) (hlo : lo ≤ 9) (hhi : hi2 ≤ 9) (hD : ¬ isDt n t i 1 1 lo hi2 = true) : Call l α D cA uX10_figure (d + 5) [.inr 50, .inl (nI lo), .inl (nI hi2)] M (fun r M1 => (∃ v, r = .inl v) ∧ M1 = ms M 50 14 (nI (tkS n t i))) := by
  refine Call.of kX10_figure.1 (Nat.le_of_ble_eq_true rfl) ?_
  have hn := hT.2.1
  have hin := tkE_in (n := n) (t := t) hi
  have hm8 := mtk_8 (n := n) (t := t) (i := i)
  refine G_aload_n dX10_figure_0 rfl rfl ?_
  rcases (show tkK n t i = 3 ∨ (tkK n t i ≠ 3 ∧ tkS n t i < n) ∨ (tkK n t i ≠ 3 ∧ ¬ tkS n t i < n) by omega) with d1 | ⟨d1, hj⟩ | ⟨d1, hj⟩
  · obtain ⟨hj, f2, f3, f4⟩ := tk_dig hi d1
    have f5 := f4 _ (Nat.le_refl _) f2
    refine G_aload_n dX10_figure_1 rfl rfl ?_
    refine G_getI (v := (nI (tkS n t i))) dX10_figure_2 fX10_95 rfl rfl hK.1 ?_
    refine G_callVi (ν := uX10_at) (As := [.inl (nI (tkS n t i))]) dX10_figure_5 nX10_98 kX10_at rfl rfl rfl rfl rfl (Nat.le_of_ble_eq_true rfl) (y_at_in hT hj) ?_
    rintro _ M8 ⟨rfl, e9⟩
    subst M8
    refine G_bipush (v := (nI 48)) dX10_figure_8 (by decide) ?_
    refine G_isub (v := (nI ((t (tkS n t i)) - 48))) dX10_figure_10 (pk_sub (by omega)) ?_
    refine G_istore_n (L2 := [some (.inr 50), some (.inl (nI lo)), some (.inl (nI hi2)), some (.inl (nI ((t (tkS n t i)) - 48)))]) dX10_figure_11 rfl (Nat.le_of_ble_eq_true rfl) rfl ?_
    refine G_aload_n dX10_figure_12 rfl rfl ?_
    refine G_aload_n dX10_figure_13 rfl rfl ?_
    refine G_getI (v := (nI 6)) dX10_figure_14 fX10_106 rfl rfl (hK.2.2.trans (by rw [mtk_3 d1])) ?_
    refine G_bipush (v := (nI 6)) dX10_figure_17 (by decide) ?_
    refine Gn_icmp_ne (tgt := 48) dX10_figure_19 (by decide) (by omega) (by omega) (fun h19 => ?_) (fun h19 => ?_)
    · omega
    · refine G_aload_n dX10_figure_22 rfl rfl ?_
      refine G_getI (v := (nI (tkE n t i))) dX10_figure_23 fX10_92 rfl rfl hK.2.1 ?_
      refine G_aload_n dX10_figure_26 rfl rfl ?_
      refine G_getI (v := (nI (tkS n t i))) dX10_figure_27 fX10_95 rfl rfl hK.1 ?_
      refine G_isub (v := (nI ((tkE n t i) - (tkS n t i)))) dX10_figure_30 (pk_sub (by omega)) ?_
      refine G_iconst (v := (nI 1)) dX10_figure_31 (by decide) ?_
      refine Gn_icmp_ne (tgt := 48) dX10_figure_32 (by decide) (by omega) (by omega) (fun h32 => ?_) (fun h32 => ?_)
      · refine G_iconst (v := (nI 0)) dX10_figure_48 (by decide) ?_
        refine G_callVv (ν := uX10_takes) (As := [.inl (nI 0)]) dX10_figure_49 nX10_119 kX10_takes rfl rfl rfl rfl rfl (Nat.le_of_ble_eq_true rfl) (y_takes_f hK h14) ?_
        rintro _ M2 rfl
        refine G_iload_n dX10_figure_52 rfl rfl ?_
        refine G_iret dX10_figure_53 rfl rfl ?_
        exact ⟨⟨_, rfl⟩, rfl⟩
      · refine G_iload_n dX10_figure_35 rfl rfl ?_
        refine G_iload_n dX10_figure_36 rfl rfl ?_
        refine G_iload_n dX10_figure_37 rfl rfl ?_
        refine G_callSi (ν := uX10_in) (As := [.inl (nI ((t (tkS n t i)) - 48)), .inl (nI lo), .inl (nI hi2)]) dX10_figure_38 nX10_85 kX10_in rfl rfl rfl (Nat.le_of_ble_eq_true rfl) (y_inI (lo := lo) (hi := hi2)) ?_
        rintro _ M8 ⟨rfl, e9⟩
        subst M8
        refine Gb_if_eq (tgt := 48) dX10_figure_41 (by decide) (fun h41 => ?_) (fun h41 => ?_)
        · refine G_iconst (v := (nI 0)) dX10_figure_48 (by decide) ?_
          refine G_callVv (ν := uX10_takes) (As := [.inl (nI 0)]) dX10_figure_49 nX10_119 kX10_takes rfl rfl rfl rfl rfl (Nat.le_of_ble_eq_true rfl) (y_takes_f hK h14) ?_
          rintro _ M2 rfl
          refine G_iload_n dX10_figure_52 rfl rfl ?_
          refine G_iret dX10_figure_53 rfl rfl ?_
          exact ⟨⟨_, rfl⟩, rfl⟩
        · exact absurd (isDt_iff.mpr ⟨d1, h32, (inI_nn (by omega) (by omega) (by omega)).mp (dec_iff.mp h41)⟩) hD
  · have hb9 := (hT.2.2 _ hj).2
    refine G_aload_n dX10_figure_1 rfl rfl ?_
    refine G_getI (v := (nI (tkS n t i))) dX10_figure_2 fX10_95 rfl rfl hK.1 ?_
    refine G_callVi (ν := uX10_at) (As := [.inl (nI (tkS n t i))]) dX10_figure_5 nX10_98 kX10_at rfl rfl rfl rfl rfl (Nat.le_of_ble_eq_true rfl) (y_at_in hT hj) ?_
    rintro _ M8 ⟨rfl, e9⟩
    subst M8
    refine G_bipush (v := (nI 48)) dX10_figure_8 (by decide) ?_
    refine G_isub (v := (nI (t (tkS n t i)) - nI 48)) dX10_figure_10 rfl ?_
    refine G_istore_n (L2 := [some (.inr 50), some (.inl (nI lo)), some (.inl (nI hi2)), some (.inl (nI (t (tkS n t i)) - nI 48))]) dX10_figure_11 rfl (Nat.le_of_ble_eq_true rfl) rfl ?_
    refine G_aload_n dX10_figure_12 rfl rfl ?_
    refine G_aload_n dX10_figure_13 rfl rfl ?_
    refine G_getI (v := (nI (mtk n t i))) dX10_figure_14 fX10_106 rfl rfl hK.2.2 ?_
    refine G_bipush (v := (nI 6)) dX10_figure_17 (by decide) ?_
    refine Gn_icmp_ne (tgt := 48) dX10_figure_19 (by decide) (by omega) (by omega) (fun h19 => ?_) (fun h19 => ?_)
    · refine G_iconst (v := (nI 0)) dX10_figure_48 (by decide) ?_
      refine G_callVv (ν := uX10_takes) (As := [.inl (nI 0)]) dX10_figure_49 nX10_119 kX10_takes rfl rfl rfl rfl rfl (Nat.le_of_ble_eq_true rfl) (y_takes_f hK h14) ?_
      rintro _ M2 rfl
      refine G_iload_n dX10_figure_52 rfl rfl ?_
      refine G_iret dX10_figure_53 rfl rfl ?_
      exact ⟨⟨_, rfl⟩, rfl⟩
    · exact absurd (mtk_6 h19) d1
  · skip
    refine G_aload_n dX10_figure_1 rfl rfl ?_
    refine G_getI (v := (nI (tkS n t i))) dX10_figure_2 fX10_95 rfl rfl hK.1 ?_
    refine G_callVi (ν := uX10_at) (As := [.inl (nI (tkS n t i))]) dX10_figure_5 nX10_98 kX10_at rfl rfl rfl rfl rfl (Nat.le_of_ble_eq_true rfl) (y_at_out hT hj (by omega)) ?_
    rintro _ M8 ⟨rfl, e9⟩
    subst M8
    refine G_bipush (v := (nI 48)) dX10_figure_8 (by decide) ?_
    refine G_isub (v := (((-1)) - (nI 48))) dX10_figure_10 rfl ?_
    refine G_istore_n (L2 := [some (.inr 50), some (.inl (nI lo)), some (.inl (nI hi2)), some (.inl (((-1)) - (nI 48)))]) dX10_figure_11 rfl (Nat.le_of_ble_eq_true rfl) rfl ?_
    refine G_aload_n dX10_figure_12 rfl rfl ?_
    refine G_aload_n dX10_figure_13 rfl rfl ?_
    refine G_getI (v := (nI (mtk n t i))) dX10_figure_14 fX10_106 rfl rfl hK.2.2 ?_
    refine G_bipush (v := (nI 6)) dX10_figure_17 (by decide) ?_
    refine Gn_icmp_ne (tgt := 48) dX10_figure_19 (by decide) (by omega) (by omega) (fun h19 => ?_) (fun h19 => ?_)
    · refine G_iconst (v := (nI 0)) dX10_figure_48 (by decide) ?_
      refine G_callVv (ν := uX10_takes) (As := [.inl (nI 0)]) dX10_figure_49 nX10_119 kX10_takes rfl rfl rfl rfl rfl (Nat.le_of_ble_eq_true rfl) (y_takes_f hK h14) ?_
      rintro _ M2 rfl
      refine G_iload_n dX10_figure_52 rfl rfl ?_
      refine G_iret dX10_figure_53 rfl rfl ?_
      exact ⟨⟨_, rfl⟩, rfl⟩
    · exact absurd (mtk_6 h19) d1
theorem y_fig_er {d lo hi2 p : Nat} {n i : Nat} {t : Nat → Nat} {M : Mem} (hT : TBm n t M) (hi : i ≤ n) (hK : TKm n t i M) (h14 : M 50 14 = nI p) (hp : p < 2 ^ 31) (hlo : lo ≤ 9) (hhi : hi2 ≤ 9) : Call l α D cA uX10_figure (d + 5) [.inr 50, .inl (nI lo), .inl (nI hi2)] M (fun r M1 => (∃ v, r = .inl v) ∧ M1 = M) := by
  refine Call.of kX10_figure.1 (Nat.le_of_ble_eq_true rfl) ?_
  have hn := hT.2.1
  have hin := tkE_in (n := n) (t := t) hi
  have hm8 := mtk_8 (n := n) (t := t) (i := i)
  refine G_aload_n dX10_figure_0 rfl rfl ?_
  by_cases hj : tkS n t i < n
  · have hb9 := (hT.2.2 _ hj).2
    refine G_aload_n dX10_figure_1 rfl rfl ?_
    refine G_getI (v := (nI (tkS n t i))) dX10_figure_2 fX10_95 rfl rfl hK.1 ?_
    refine G_callVi (ν := uX10_at) (As := [.inl (nI (tkS n t i))]) dX10_figure_5 nX10_98 kX10_at rfl rfl rfl rfl rfl (Nat.le_of_ble_eq_true rfl) (y_at_in hT hj) ?_
    rintro _ M8 ⟨rfl, e9⟩
    subst M8
    refine G_bipush (v := (nI 48)) dX10_figure_8 (by decide) ?_
    refine G_isub (v := (nI (t (tkS n t i)) - nI 48)) dX10_figure_10 rfl ?_
    refine G_istore_n (L2 := [some (.inr 50), some (.inl (nI lo)), some (.inl (nI hi2)), some (.inl (nI (t (tkS n t i)) - nI 48))]) dX10_figure_11 rfl (Nat.le_of_ble_eq_true rfl) rfl ?_
    refine G_aload_n dX10_figure_12 rfl rfl ?_
    refine G_aload_n dX10_figure_13 rfl rfl ?_
    refine G_getI (v := (nI (mtk n t i))) dX10_figure_14 fX10_106 rfl rfl hK.2.2 ?_
    refine G_bipush (v := (nI 6)) dX10_figure_17 (by decide) ?_
    refine Gn_icmp_ne (tgt := 48) dX10_figure_19 (by decide) (by omega) (by omega) (fun h19 => ?_) (fun h19 => ?_)
    · refine G_iconst (v := (nI 0)) dX10_figure_48 (by decide) ?_
      refine G_callVv (ν := uX10_takes) (As := [.inl (nI 0)]) dX10_figure_49 nX10_119 kX10_takes rfl rfl rfl rfl rfl (Nat.le_of_ble_eq_true rfl) (y_takes_e h14 hp) ?_
      rintro _ M8 e9
      subst M8
      refine G_iload_n dX10_figure_52 rfl rfl ?_
      refine G_iret dX10_figure_53 rfl rfl ?_
      exact ⟨⟨_, rfl⟩, rfl⟩
    · refine G_aload_n dX10_figure_22 rfl rfl ?_
      refine G_getI (v := (nI (tkE n t i))) dX10_figure_23 fX10_92 rfl rfl hK.2.1 ?_
      refine G_aload_n dX10_figure_26 rfl rfl ?_
      refine G_getI (v := (nI (tkS n t i))) dX10_figure_27 fX10_95 rfl rfl hK.1 ?_
      refine G_isub (v := (nI ((tkE n t i) - (tkS n t i)))) dX10_figure_30 (pk_sub (by omega)) ?_
      refine G_iconst (v := (nI 1)) dX10_figure_31 (by decide) ?_
      refine Gn_icmp_ne (tgt := 48) dX10_figure_32 (by decide) (by omega) (by omega) (fun h32 => ?_) (fun h32 => ?_)
      · refine G_iconst (v := (nI 0)) dX10_figure_48 (by decide) ?_
        refine G_callVv (ν := uX10_takes) (As := [.inl (nI 0)]) dX10_figure_49 nX10_119 kX10_takes rfl rfl rfl rfl rfl (Nat.le_of_ble_eq_true rfl) (y_takes_e h14 hp) ?_
        rintro _ M8 e9
        subst M8
        refine G_iload_n dX10_figure_52 rfl rfl ?_
        refine G_iret dX10_figure_53 rfl rfl ?_
        exact ⟨⟨_, rfl⟩, rfl⟩
      · refine G_iload_n dX10_figure_35 rfl rfl ?_
        refine G_iload_n dX10_figure_36 rfl rfl ?_
        refine G_iload_n dX10_figure_37 rfl rfl ?_
        refine G_callSi (ν := uX10_in) (As := [.inl (nI (t (tkS n t i)) - nI 48), .inl (nI lo), .inl (nI hi2)]) dX10_figure_38 nX10_85 kX10_in rfl rfl rfl (Nat.le_of_ble_eq_true rfl) (y_inI (lo := lo) (hi := hi2)) ?_
        rintro _ M8 ⟨rfl, e9⟩
        subst M8
        refine Gb_if_eq (tgt := 48) dX10_figure_41 (by decide) (fun h41 => ?_) (fun h41 => ?_)
        · refine G_iconst (v := (nI 0)) dX10_figure_48 (by decide) ?_
          refine G_callVv (ν := uX10_takes) (As := [.inl (nI 0)]) dX10_figure_49 nX10_119 kX10_takes rfl rfl rfl rfl rfl (Nat.le_of_ble_eq_true rfl) (y_takes_e h14 hp) ?_
          rintro _ M8 e9
          subst M8
          refine G_iload_n dX10_figure_52 rfl rfl ?_
          refine G_iret dX10_figure_53 rfl rfl ?_
          exact ⟨⟨_, rfl⟩, rfl⟩
        · refine G_iconst (v := (nI 1)) dX10_figure_44 (by decide) ?_
          refine G_goto (tgt := 49) dX10_figure_45 (by decide) ?_
          refine G_callVv (ν := uX10_takes) (As := [.inl (nI 1)]) dX10_figure_49 nX10_119 kX10_takes rfl rfl rfl rfl rfl (Nat.le_of_ble_eq_true rfl) (y_takes_e h14 hp) ?_
          rintro _ M8 e9
          subst M8
          refine G_iload_n dX10_figure_52 rfl rfl ?_
          refine G_iret dX10_figure_53 rfl rfl ?_
          exact ⟨⟨_, rfl⟩, rfl⟩
  · skip
    refine G_aload_n dX10_figure_1 rfl rfl ?_
    refine G_getI (v := (nI (tkS n t i))) dX10_figure_2 fX10_95 rfl rfl hK.1 ?_
    refine G_callVi (ν := uX10_at) (As := [.inl (nI (tkS n t i))]) dX10_figure_5 nX10_98 kX10_at rfl rfl rfl rfl rfl (Nat.le_of_ble_eq_true rfl) (y_at_out hT hj (by omega)) ?_
    rintro _ M8 ⟨rfl, e9⟩
    subst M8
    refine G_bipush (v := (nI 48)) dX10_figure_8 (by decide) ?_
    refine G_isub (v := (((-1)) - (nI 48))) dX10_figure_10 rfl ?_
    refine G_istore_n (L2 := [some (.inr 50), some (.inl (nI lo)), some (.inl (nI hi2)), some (.inl (((-1)) - (nI 48)))]) dX10_figure_11 rfl (Nat.le_of_ble_eq_true rfl) rfl ?_
    refine G_aload_n dX10_figure_12 rfl rfl ?_
    refine G_aload_n dX10_figure_13 rfl rfl ?_
    refine G_getI (v := (nI (mtk n t i))) dX10_figure_14 fX10_106 rfl rfl hK.2.2 ?_
    refine G_bipush (v := (nI 6)) dX10_figure_17 (by decide) ?_
    refine Gn_icmp_ne (tgt := 48) dX10_figure_19 (by decide) (by omega) (by omega) (fun h19 => ?_) (fun h19 => ?_)
    · refine G_iconst (v := (nI 0)) dX10_figure_48 (by decide) ?_
      refine G_callVv (ν := uX10_takes) (As := [.inl (nI 0)]) dX10_figure_49 nX10_119 kX10_takes rfl rfl rfl rfl rfl (Nat.le_of_ble_eq_true rfl) (y_takes_e h14 hp) ?_
      rintro _ M8 e9
      subst M8
      refine G_iload_n dX10_figure_52 rfl rfl ?_
      refine G_iret dX10_figure_53 rfl rfl ?_
      exact ⟨⟨_, rfl⟩, rfl⟩
    · refine G_aload_n dX10_figure_22 rfl rfl ?_
      refine G_getI (v := (nI (tkE n t i))) dX10_figure_23 fX10_92 rfl rfl hK.2.1 ?_
      refine G_aload_n dX10_figure_26 rfl rfl ?_
      refine G_getI (v := (nI (tkS n t i))) dX10_figure_27 fX10_95 rfl rfl hK.1 ?_
      refine G_isub (v := (nI ((tkE n t i) - (tkS n t i)))) dX10_figure_30 (pk_sub (by omega)) ?_
      refine G_iconst (v := (nI 1)) dX10_figure_31 (by decide) ?_
      refine Gn_icmp_ne (tgt := 48) dX10_figure_32 (by decide) (by omega) (by omega) (fun h32 => ?_) (fun h32 => ?_)
      · refine G_iconst (v := (nI 0)) dX10_figure_48 (by decide) ?_
        refine G_callVv (ν := uX10_takes) (As := [.inl (nI 0)]) dX10_figure_49 nX10_119 kX10_takes rfl rfl rfl rfl rfl (Nat.le_of_ble_eq_true rfl) (y_takes_e h14 hp) ?_
        rintro _ M8 e9
        subst M8
        refine G_iload_n dX10_figure_52 rfl rfl ?_
        refine G_iret dX10_figure_53 rfl rfl ?_
        exact ⟨⟨_, rfl⟩, rfl⟩
      · refine G_iload_n dX10_figure_35 rfl rfl ?_
        refine G_iload_n dX10_figure_36 rfl rfl ?_
        refine G_iload_n dX10_figure_37 rfl rfl ?_
        refine G_callSi (ν := uX10_in) (As := [.inl (((-1)) - (nI 48)), .inl (nI lo), .inl (nI hi2)]) dX10_figure_38 nX10_85 kX10_in rfl rfl rfl (Nat.le_of_ble_eq_true rfl) (y_inI (lo := lo) (hi := hi2)) ?_
        rintro _ M8 ⟨rfl, e9⟩
        subst M8
        refine Gb_if_eq (tgt := 48) dX10_figure_41 (by decide) (fun h41 => ?_) (fun h41 => ?_)
        · refine G_iconst (v := (nI 0)) dX10_figure_48 (by decide) ?_
          refine G_callVv (ν := uX10_takes) (As := [.inl (nI 0)]) dX10_figure_49 nX10_119 kX10_takes rfl rfl rfl rfl rfl (Nat.le_of_ble_eq_true rfl) (y_takes_e h14 hp) ?_
          rintro _ M8 e9
          subst M8
          refine G_iload_n dX10_figure_52 rfl rfl ?_
          refine G_iret dX10_figure_53 rfl rfl ?_
          exact ⟨⟨_, rfl⟩, rfl⟩
        · refine G_iconst (v := (nI 1)) dX10_figure_44 (by decide) ?_
          refine G_goto (tgt := 49) dX10_figure_45 (by decide) ?_
          refine G_callVv (ν := uX10_takes) (As := [.inl (nI 1)]) dX10_figure_49 nX10_119 kX10_takes rfl rfl rfl rfl rfl (Nat.le_of_ble_eq_true rfl) (y_takes_e h14 hp) ?_
          rintro _ M8 e9
          subst M8
          refine G_iload_n dX10_figure_52 rfl rfl ?_
          refine G_iret dX10_figure_53 rfl rfl ?_
          exact ⟨⟨_, rfl⟩, rfl⟩
theorem DR_w {g : Nat → Nat} {r ix v : Nat} {f : Nat → Int32} (h : DR g r f) (h1 : 2 ≤ ix) (h2 : ix < 12) : DR (updN g ix v) r (upd f ix (nI v)) := by
  obtain ⟨a, b, c, e⟩ := h
  have e0 : updN g ix v 0 = g 0 := updN_n (by omega)
  refine ⟨by rw [upd_n (by omega), e0]; exact a, by rw [upd_n (by omega)]; exact b, fun j j1 j2 => ?_, fun hr k hk => ?_⟩
  · unfold upd updN
    split
    · rfl
    · exact c j j1 j2
  · rw [e0] at hk ⊢
    rw [upd_n (by omega), updN_n (by omega)]
    exact e hr k hk
theorem tkS_lt {n : Nat} {t : Nat → Nat} {i : Nat} (hi : i ≤ n) (hn : n ≤ 120) : tkS n t i < 2 ^ 31 := by
  have := tkE_in (n := n) (t := t) hi
  omega
theorem y_readsOf {d first hh : Nat} {n : Nat} {t : Nat → Nat} {s : RT} {M : Mem} (hT : TBm n t M) (hV : PV n s) (hD : DSm n t s M) (hf : (first = 4 ∧ hh = 1) ∨ (first = 8 ∧ hh = 9)) : Call l α D cA uX10_readsOf (d + 6) [.inr 50, .inl (nI first), .inl (nI hh)] M (fun _ M1 => FPz M M1 ∧ STm n t (pOf n t first hh s) M1) := by
  refine Call.of kX10_readsOf.1 (Nat.le_of_ble_eq_true rfl) ?_
  have hn := hT.2.1
  have hi := hV.1
  have hi1 := (tkE_in (n := n) (t := t) hi).1
  have hi2 := (tkE_in (n := n) (t := t) hi1).1
  refine G_aload_n dX10_readsOf_0 rfl rfl ?_
  refine G_iconst (v := (nI 1)) dX10_readsOf_1 (by decide) ?_
  refine G_callVv (ν := uX10_takes) (As := [.inl (nI 1)]) dX10_readsOf_2 nX10_119 kX10_takes rfl rfl rfl rfl rfl (Nat.le_of_ble_eq_true rfl) (y_takes_t hT hi hD.1 hD.2.1) ?_
  rintro _ Ma ⟨hFa, hKa⟩
  have hTa := TB_K hT hFa
  have h14a : Ma 50 14 = -9 := (hFa.2 14 (by decide) (by decide) (by decide)).trans hD.2.1
  rcases (show ¬ isDt n t (tkE n t s.1) 1 1 1 3 = true ∨ (isDt n t (tkE n t s.1) 1 1 1 3 = true ∧ ¬ isDt n t (tkE n t (tkE n t s.1)) 1 1 0 hh = true) ∨ (isDt n t (tkE n t s.1) 1 1 1 3 = true ∧ isDt n t (tkE n t (tkE n t s.1)) 1 1 0 hh = true) from by
    by_cases a : isDt n t (tkE n t s.1) 1 1 1 3 = true
    · by_cases b : isDt n t (tkE n t (tkE n t s.1)) 1 1 0 hh = true
      · exact Or.inr (Or.inr ⟨a, b⟩)
      · exact Or.inr (Or.inl ⟨a, b⟩)
    · exact Or.inl a) with hA | ⟨hA, hB⟩ | ⟨hA, hB⟩
  · skip
    refine G_aload_n dX10_readsOf_5 rfl rfl ?_
    refine G_iconst (v := (nI 1)) dX10_readsOf_6 (by decide) ?_
    refine G_iconst (v := (nI 3)) dX10_readsOf_7 (by decide) ?_
    refine G_callVi (ν := uX10_figure) (As := [.inl (nI 1), .inl (nI 3)]) dX10_readsOf_8 nX10_123 kX10_figure rfl rfl rfl rfl rfl (Nat.le_of_ble_eq_true rfl) (y_fig_no hTa hi1 hKa h14a (by omega) (by omega) hA) ?_
    rintro _ M2 ⟨⟨v1, rfl⟩, rfl⟩
    refine G_istore_n (L2 := [some (.inr 50), some (.inl (nI first)), some (.inl (nI hh)), some (.inl v1), none]) dX10_readsOf_11 rfl (Nat.le_of_ble_eq_true rfl) rfl ?_
    refine G_aload_n dX10_readsOf_12 rfl rfl ?_
    refine G_iconst (v := (nI 0)) dX10_readsOf_13 (by decide) ?_
    refine G_iload_n dX10_readsOf_14 rfl rfl ?_
    refine G_callVi (ν := uX10_figure) (As := [.inl (nI 0), .inl (nI hh)]) dX10_readsOf_15 nX10_123 kX10_figure rfl rfl rfl rfl rfl (Nat.le_of_ble_eq_true rfl) (y_fig_er (TB_z hTa (FPz_14 FPz_r)) hi1 (TK_14 hKa) (by rw [ms_o]; exact upd_k) (tkS_lt hi1 hn) (by omega) (by omega)) ?_
    rintro _ M8 ⟨⟨v2, rfl⟩, e9⟩
    subst M8
    refine G_istore (L2 := [some (.inr 50), some (.inl (nI first)), some (.inl (nI hh)), some (.inl v1), some (.inl v2)]) dX10_readsOf_18 (Nat.le_of_ble_eq_true rfl) rfl ?_
    refine G_aload_n dX10_readsOf_20 rfl rfl ?_
    refine G_getI (v := (nI (tkS n t (tkE n t s.1)))) dX10_readsOf_21 fX10_113 rfl rfl (by rw [ms_o]; exact upd_k) ?_
    refine G_bipush (v := ((-9))) dX10_readsOf_24 (by decide) ?_
    refine G_icmp_ne (tgt := 39) dX10_readsOf_26 (by decide) (fun h26 => ?_) (fun h26 => ?_)
    · refine G_vret dX10_readsOf_39 rfl ?_
      refine ⟨FPz_14 (FPz_K hFa), ?_⟩
      rw [pOf, if_neg hA]
      exact STm_f (TK_14 hKa) (by rw [ms_o]; exact upd_k)
    · exact absurd h26 (no9 (tkS_lt hi1 hn))
  · skip
    refine G_aload_n dX10_readsOf_5 rfl rfl ?_
    refine G_iconst (v := (nI 1)) dX10_readsOf_6 (by decide) ?_
    refine G_iconst (v := (nI 3)) dX10_readsOf_7 (by decide) ?_
    refine G_callVi (ν := uX10_figure) (As := [.inl (nI 1), .inl (nI 3)]) dX10_readsOf_8 nX10_123 kX10_figure rfl rfl rfl rfl rfl (Nat.le_of_ble_eq_true rfl) (y_fig_ok hTa hi1 hKa h14a (by omega) (by omega) hA) ?_
    rintro _ Mb ⟨rfl, hFb, hKb⟩
    have hTb := TB_K hTa hFb
    have h14b : Mb 50 14 = -9 := (hFb.2 14 (by decide) (by decide) (by decide)).trans h14a
    refine G_istore_n (L2 := [some (.inr 50), some (.inl (nI first)), some (.inl (nI hh)), some (.inl (nI (dg n t (tkE n t s.1)))), none]) dX10_readsOf_11 rfl (Nat.le_of_ble_eq_true rfl) rfl ?_
    refine G_aload_n dX10_readsOf_12 rfl rfl ?_
    refine G_iconst (v := (nI 0)) dX10_readsOf_13 (by decide) ?_
    refine G_iload_n dX10_readsOf_14 rfl rfl ?_
    refine G_callVi (ν := uX10_figure) (As := [.inl (nI 0), .inl (nI hh)]) dX10_readsOf_15 nX10_123 kX10_figure rfl rfl rfl rfl rfl (Nat.le_of_ble_eq_true rfl) (y_fig_no hTb hi2 hKb h14b (by omega) (by omega) hB) ?_
    rintro _ M2 ⟨⟨v1, rfl⟩, rfl⟩
    refine G_istore (L2 := [some (.inr 50), some (.inl (nI first)), some (.inl (nI hh)), some (.inl (nI (dg n t (tkE n t s.1)))), some (.inl v1)]) dX10_readsOf_18 (Nat.le_of_ble_eq_true rfl) rfl ?_
    refine G_aload_n dX10_readsOf_20 rfl rfl ?_
    refine G_getI (v := (nI (tkS n t (tkE n t (tkE n t s.1))))) dX10_readsOf_21 fX10_113 rfl rfl (by rw [ms_o]; exact upd_k) ?_
    refine G_bipush (v := ((-9))) dX10_readsOf_24 (by decide) ?_
    refine G_icmp_ne (tgt := 39) dX10_readsOf_26 (by decide) (fun h26 => ?_) (fun h26 => ?_)
    · refine G_vret dX10_readsOf_39 rfl ?_
      refine ⟨FPz_14 (FPz_K (FK_t hFa hFb)), ?_⟩
      rw [pOf, if_pos hA, pVal, if_neg hB]
      exact STm_f (TK_14 hKb) (by rw [ms_o]; exact upd_k)
    · exact absurd h26 (no9 (tkS_lt hi2 hn))
  · skip
    refine G_aload_n dX10_readsOf_5 rfl rfl ?_
    refine G_iconst (v := (nI 1)) dX10_readsOf_6 (by decide) ?_
    refine G_iconst (v := (nI 3)) dX10_readsOf_7 (by decide) ?_
    refine G_callVi (ν := uX10_figure) (As := [.inl (nI 1), .inl (nI 3)]) dX10_readsOf_8 nX10_123 kX10_figure rfl rfl rfl rfl rfl (Nat.le_of_ble_eq_true rfl) (y_fig_ok hTa hi1 hKa h14a (by omega) (by omega) hA) ?_
    rintro _ Mb ⟨rfl, hFb, hKb⟩
    have hTb := TB_K hTa hFb
    have h14b : Mb 50 14 = -9 := (hFb.2 14 (by decide) (by decide) (by decide)).trans h14a
    refine G_istore_n (L2 := [some (.inr 50), some (.inl (nI first)), some (.inl (nI hh)), some (.inl (nI (dg n t (tkE n t s.1)))), none]) dX10_readsOf_11 rfl (Nat.le_of_ble_eq_true rfl) rfl ?_
    refine G_aload_n dX10_readsOf_12 rfl rfl ?_
    refine G_iconst (v := (nI 0)) dX10_readsOf_13 (by decide) ?_
    refine G_iload_n dX10_readsOf_14 rfl rfl ?_
    refine G_callVi (ν := uX10_figure) (As := [.inl (nI 0), .inl (nI hh)]) dX10_readsOf_15 nX10_123 kX10_figure rfl rfl rfl rfl rfl (Nat.le_of_ble_eq_true rfl) (y_fig_ok hTb hi2 hKb h14b (by omega) (by omega) hB) ?_
    rintro _ Mc ⟨rfl, hFc, hKc⟩
    have h14c : Mc 50 14 = -9 := (hFc.2 14 (by decide) (by decide) (by decide)).trans h14b
    have hdg := (isDt_d hA)
    refine G_istore (L2 := [some (.inr 50), some (.inl (nI first)), some (.inl (nI hh)), some (.inl (nI (dg n t (tkE n t s.1)))), some (.inl (nI (dg n t (tkE n t (tkE n t s.1)))))]) dX10_readsOf_18 (Nat.le_of_ble_eq_true rfl) rfl ?_
    refine G_aload_n dX10_readsOf_20 rfl rfl ?_
    refine G_getI (v := ((-9))) dX10_readsOf_21 fX10_113 rfl rfl h14c ?_
    refine G_bipush (v := ((-9))) dX10_readsOf_24 (by decide) ?_
    refine G_icmp_ne (tgt := 39) dX10_readsOf_26 (by decide) (fun h26 => ?_) (fun h26 => ?_)
    · exact absurd rfl h26
    · refine G_aload_n dX10_readsOf_29 rfl rfl ?_
      refine G_getR (j := 52) dX10_readsOf_30 fX10_13 rfl rfl ?_
      refine G_iload_n dX10_readsOf_33 rfl rfl ?_
      refine G_iload_n dX10_readsOf_34 rfl rfl ?_
      refine G_iadd (v := (nI (first + (dg n t (tkE n t s.1))))) dX10_readsOf_35 (nI_add _ _) ?_
      refine G_iload dX10_readsOf_36 rfl ?_
      refine G_iast (k := first + (dg n t (tkE n t s.1))) (v := (nI (dg n t (tkE n t (tkE n t s.1))))) dX10_readsOf_38 rfl (vp_in_nI (by omega) (by omega)) (nI_clamp (by omega)) rfl ?_
      refine G_vret dX10_readsOf_39 rfl ?_
      refine ⟨FPz_52 (FPz_K (FK_t hFa (FK_t hFb hFc))), ?_⟩
      rw [pOf, if_pos hA, pVal, if_pos hB]
      refine STm_t ⟨TK_52 hKc, by rw [ms_q (by decide)]; exact h14c, ?_⟩
      rw [ms_o, hFc.1 52 (by decide), hFb.1 52 (by decide), hFa.1 52 (by decide)]
      exact DR_w hD.2.2 (by omega) (by omega)
theorem y_readsOne {d ix lo hi3 : Nat} {n : Nat} {t : Nat → Nat} {s : RT} {M : Mem} (hT : TBm n t M) (hV : PV n s) (hD : DSm n t s M) (hf : (ix = 2 ∧ lo = 1 ∧ hi3 = 5) ∨ (ix = 3 ∧ lo = 0 ∧ hi3 = 2)) : Call l α D cA uX10_readsOne (d + 6) [.inr 50, .inl (nI ix), .inl (nI lo), .inl (nI hi3)] M (fun _ M1 => FPz M M1 ∧ STm n t (pVal n t ix lo hi3 (tkE n t s.1, s.2)) M1) := by
  refine Call.of kX10_readsOne.1 (Nat.le_of_ble_eq_true rfl) ?_
  have hn := hT.2.1
  have hi := hV.1
  have hi1 := (tkE_in (n := n) (t := t) hi).1
  have hi2 := (tkE_in (n := n) (t := t) hi1).1
  refine G_aload_n dX10_readsOne_0 rfl rfl ?_
  refine G_iconst (v := (nI 1)) dX10_readsOne_1 (by decide) ?_
  refine G_callVv (ν := uX10_takes) (As := [.inl (nI 1)]) dX10_readsOne_2 nX10_119 kX10_takes rfl rfl rfl rfl rfl (Nat.le_of_ble_eq_true rfl) (y_takes_t hT hi hD.1 hD.2.1) ?_
  rintro _ Ma ⟨hFa, hKa⟩
  have hTa := TB_K hT hFa
  have h14a : Ma 50 14 = -9 := (hFa.2 14 (by decide) (by decide) (by decide)).trans hD.2.1
  by_cases hA : isDt n t (tkE n t s.1) 1 1 lo hi3 = true
  · skip
    refine G_aload_n dX10_readsOne_5 rfl rfl ?_
    refine G_iload_n dX10_readsOne_6 rfl rfl ?_
    refine G_iload_n dX10_readsOne_7 rfl rfl ?_
    refine G_callVi (ν := uX10_figure) (As := [.inl (nI lo), .inl (nI hi3)]) dX10_readsOne_8 nX10_123 kX10_figure rfl rfl rfl rfl rfl (Nat.le_of_ble_eq_true rfl) (y_fig_ok hTa hi1 hKa h14a (by omega) (by omega) hA) ?_
    rintro _ Mb ⟨rfl, hFb, hKb⟩
    have h14b : Mb 50 14 = -9 := (hFb.2 14 (by decide) (by decide) (by decide)).trans h14a
    refine G_istore (L2 := [some (.inr 50), some (.inl (nI ix)), some (.inl (nI lo)), some (.inl (nI hi3)), some (.inl (nI (dg n t (tkE n t s.1))))]) dX10_readsOne_11 (Nat.le_of_ble_eq_true rfl) rfl ?_
    refine G_aload_n dX10_readsOne_13 rfl rfl ?_
    refine G_getR (j := 52) dX10_readsOne_14 fX10_13 rfl rfl ?_
    refine G_iload_n dX10_readsOne_17 rfl rfl ?_
    refine G_aload_n dX10_readsOne_18 rfl rfl ?_
    refine G_getI (v := ((-9))) dX10_readsOne_19 fX10_113 rfl rfl h14b ?_
    refine G_bipush (v := ((-9))) dX10_readsOne_22 (by decide) ?_
    refine G_icmp_ne (tgt := 32) dX10_readsOne_24 (by decide) (fun h24 => ?_) (fun h24 => ?_)
    · exact absurd rfl h24
    · refine G_iload dX10_readsOne_27 rfl ?_
      refine G_goto (tgt := 33) dX10_readsOne_29 (by decide) ?_
      refine G_iast (k := ix) (v := (nI (dg n t (tkE n t s.1)))) dX10_readsOne_33 rfl (vp_in_nI (by omega) (by omega)) (nI_clamp (by omega)) rfl ?_
      refine G_vret dX10_readsOne_34 rfl ?_
      refine ⟨FPz_52 (FPz_K (FK_t hFa hFb)), ?_⟩
      rw [pVal, if_pos hA]
      refine STm_t ⟨TK_52 hKb, by rw [ms_q (by decide)]; exact h14b, ?_⟩
      rw [ms_o, hFb.1 52 (by decide), hFa.1 52 (by decide)]
      exact DR_w hD.2.2 (by omega) (by omega)
  · skip
    refine G_aload_n dX10_readsOne_5 rfl rfl ?_
    refine G_iload_n dX10_readsOne_6 rfl rfl ?_
    refine G_iload_n dX10_readsOne_7 rfl rfl ?_
    refine G_callVi (ν := uX10_figure) (As := [.inl (nI lo), .inl (nI hi3)]) dX10_readsOne_8 nX10_123 kX10_figure rfl rfl rfl rfl rfl (Nat.le_of_ble_eq_true rfl) (y_fig_no hTa hi1 hKa h14a (by omega) (by omega) hA) ?_
    rintro _ M2 ⟨⟨v1, rfl⟩, rfl⟩
    refine G_istore (L2 := [some (.inr 50), some (.inl (nI ix)), some (.inl (nI lo)), some (.inl (nI hi3)), some (.inl v1)]) dX10_readsOne_11 (Nat.le_of_ble_eq_true rfl) rfl ?_
    refine G_aload_n dX10_readsOne_13 rfl rfl ?_
    refine G_getR (j := 52) dX10_readsOne_14 fX10_13 rfl rfl ?_
    refine G_iload_n dX10_readsOne_17 rfl rfl ?_
    refine G_aload_n dX10_readsOne_18 rfl rfl ?_
    refine G_getI (v := (nI (tkS n t (tkE n t s.1)))) dX10_readsOne_19 fX10_113 rfl rfl (by rw [ms_o]; exact upd_k) ?_
    refine G_bipush (v := ((-9))) dX10_readsOne_22 (by decide) ?_
    refine G_icmp_ne (tgt := 32) dX10_readsOne_24 (by decide) (fun h24 => ?_) (fun h24 => ?_)
    · refine G_iconst (v := (nI 0)) dX10_readsOne_32 (by decide) ?_
      refine G_iast (k := ix) (v := (nI 0)) dX10_readsOne_33 rfl (vp_in_nI (by omega) (by omega)) (nI_clamp (by omega)) rfl ?_
      refine G_vret dX10_readsOne_34 rfl ?_
      refine ⟨FPz_52 (FPz_14 (FPz_K hFa)), ?_⟩
      rw [pVal, if_neg hA]
      exact STm_f (TK_52 (TK_14 hKa)) (by rw [ms_q (by decide), ms_o]; exact upd_k)
    · exact absurd h24 (no9 (tkS_lt hi1 hn))
end P41
