/-! The reference: its tokens -/
section P40
variable {l : Launch} {α : Nat → Nat} {D : va_G} {cA : Nat → ClassId}
def FK (M M1 : Mem) : Prop := (∀ q, q ≠ 50 → M1 q = M q) ∧ ∀ j, j ≠ 11 → j ≠ 12 → j ≠ 13 → M1 50 j = M 50 j
theorem FK_r {M : Mem} : FK M M := ⟨fun _ _ => rfl, fun _ _ _ _ => rfl⟩
theorem FK_t {M M1 M2 : Mem} (h : FK M M1) (h2 : FK M1 M2) : FK M M2 := ⟨fun q a => (h2.1 q a).trans (h.1 q a), fun j a b c => (h2.2 j a b c).trans (h.2 j a b c)⟩
theorem FK_ms {M M1 : Mem} {k : Nat} {v : Int32} (h : FK M M1) (hk : k = 11 ∨ k = 12 ∨ k = 13) : FK M (ms M1 50 k v) := ⟨fun q a => by rw [ms_q a]; exact h.1 q a, fun j a b c => by rw [ms_o, upd_n (by omega)]; exact h.2 j a b c⟩
theorem TB_K {n : Nat} {t : Nat → Nat} {M M1 : Mem} (h : TBm n t M) (hF : FK M M1) : TBm n t M1 := by
  unfold TBm
  rw [hF.2 10 (by decide) (by decide) (by decide), hF.1 57 (by decide)]
  exact h
theorem b8_I {c : Nat} (h : c ≤ 255) : b8 c &&& 255 = nI c := sc_k8 c (by omega)
/-- the letters from s to e are the word w -/
def isV (t : Nat → Nat) (s e w : Nat) : Prop := e - s = wl w ∧ ∀ j, j < wl w → t (s + j) = wch w j
noncomputable def mW (t : Nat → Nat) (s e : Nat) : Nat := if dec (isV t s e 0) = true then 1 else if dec (isV t s e 1) = true then 2 else if dec (isV t s e 2) = true then 3 else if dec (isV t s e 3) = true then 4 else if dec (isV t s e 4) = true then 5 else 8
noncomputable def mtk (n : Nat) (t : Nat → Nat) (i : Nat) : Nat := if tkK n t i = 0 then 0 else if tkK n t i = 3 then 6 else if tkK n t i = 2 then mW t (tkS n t i) (tkE n t i) else if tkK n t i = 4 then 7 else 8
theorem mtk_0 {n : Nat} {t : Nat → Nat} {i : Nat} (h : tkK n t i = 0) : mtk n t i = 0 := by rw [mtk, if_pos h]
theorem mtk_3 {n : Nat} {t : Nat → Nat} {i : Nat} (h : tkK n t i = 3) : mtk n t i = 6 := by rw [mtk, if_neg (by omega), if_pos h]
theorem mtk_2 {n : Nat} {t : Nat → Nat} {i : Nat} (h : tkK n t i = 2) : mtk n t i = mW t (tkS n t i) (tkE n t i) := by rw [mtk, if_neg (by omega), if_neg (by omega), if_pos h]
theorem mtk_4 {n : Nat} {t : Nat → Nat} {i : Nat} (h : tkK n t i = 4) : mtk n t i = 7 := by rw [mtk, if_neg (by omega), if_neg (by omega), if_neg (by omega), if_pos h]
theorem mtk_5 {n : Nat} {t : Nat → Nat} {i : Nat} (h0 : tkK n t i ≠ 0) (h3 : tkK n t i ≠ 3) (h2 : tkK n t i ≠ 2) (h4 : tkK n t i ≠ 4) : mtk n t i = 8 := by rw [mtk, if_neg h0, if_neg h3, if_neg h2, if_neg h4]
def TKm (n : Nat) (t : Nat → Nat) (i : Nat) (M : Mem) : Prop := M 50 11 = nI (tkS n t i) ∧ M 50 12 = nI (tkE n t i) ∧ M 50 13 = nI (mtk n t i)
theorem knd_1 {n : Nat} {t : Nat → Nat} {j : Nat} : (knd n t j == 1) = true ↔ j < n ∧ t j = 32 := by
  unfold knd kc
  rw [beq_iff_eq]
  by_cases h : j < n
  · rw [if_pos h]
    constructor
    · intro q
      refine ⟨h, ?_⟩
      split at q <;> (try split at q) <;> (try split at q) <;> (try split at q) <;> omega
    · intro q
      rw [q.2]
      decide
  · rw [if_neg h]
    omega
theorem knd_d {n : Nat} {t : Nat → Nat} {j : Nat} (h : j < n) : knd n t j = 3 ↔ 48 ≤ t j ∧ t j ≤ 57 := by
  unfold knd kc
  rw [if_pos h]
  constructor
  · intro q
    split at q <;> (try split at q) <;> (try split at q) <;> (try split at q) <;> omega
  · intro q
    rw [if_neg (by omega), if_pos q]
theorem knd_l {n : Nat} {t : Nat → Nat} {j : Nat} (h : j < n) : knd n t j = 2 ↔ 97 ≤ t j ∧ t j ≤ 122 := by
  unfold knd kc
  rw [if_pos h]
  constructor
  · intro q
    split at q <;> (try split at q) <;> (try split at q) <;> (try split at q) <;> omega
  · intro q
    rw [if_pos q]
theorem knd_s {n : Nat} {t : Nat → Nat} {j : Nat} (h : j < n) : knd n t j = 4 ↔ t j = 59 := by
  unfold knd kc
  rw [if_pos h]
  constructor
  · intro q
    split at q <;> (try split at q) <;> (try split at q) <;> (try split at q) <;> omega
  · intro q
    rw [q]
    decide
theorem knd_o {n : Nat} {t : Nat → Nat} {j : Nat} (h : ¬ j < n) : knd n t j = 0 := if_neg h
theorem wV : (wl 0 = 3 ∧ wl 1 = 3 ∧ wl 2 = 4 ∧ wl 3 = 4 ∧ wl 4 = 4) ∧ (wch 0 0 = 114 ∧ wch 0 1 = 111 ∧ wch 0 2 = 119) ∧ (wch 1 0 = 119 ∧ wch 1 1 = 97 ∧ wch 1 2 = 121) ∧ (wch 2 0 = 114 ∧ wch 2 1 = 97 ∧ wch 2 2 = 110 ∧ wch 2 3 = 107) ∧ (wch 3 0 = 109 ∧ wch 3 1 = 111 ∧ wch 3 2 = 115 ∧ wch 3 3 = 116) ∧ wch 4 0 = 112 ∧ wch 4 1 = 117 ∧ wch 4 2 = 108 ∧ wch 4 3 = 108 := by decide
theorem isV_3 {t : Nat → Nat} {s e w a b c : Nat} (h : wl w = 3) (ha : wch w 0 = a) (hb : wch w 1 = b) (hc : wch w 2 = c) : isV t s e w ↔ e - s = 3 ∧ t s = a ∧ t (s + 1) = b ∧ t (s + 2) = c := by
  subst ha hb hc
  unfold isV
  rw [h]
  constructor
  · rintro ⟨h1, h2⟩
    exact ⟨h1, h2 0 (by decide), h2 1 (by decide), h2 2 (by decide)⟩
  · rintro ⟨h1, h2, h3, h4⟩
    refine ⟨h1, fun j hj => ?_⟩
    rcases (show j = 0 ∨ j = 1 ∨ j = 2 by omega) with rfl | rfl | rfl
    · exact h2
    · exact h3
    · exact h4
theorem isV_4 {t : Nat → Nat} {s e w a b c d : Nat} (h : wl w = 4) (ha : wch w 0 = a) (hb : wch w 1 = b) (hc : wch w 2 = c) (hd : wch w 3 = d) : isV t s e w ↔ e - s = 4 ∧ t s = a ∧ t (s + 1) = b ∧ t (s + 2) = c ∧ t (s + 3) = d := by
  subst ha hb hc hd
  unfold isV
  rw [h]
  constructor
  · rintro ⟨h1, h2⟩
    exact ⟨h1, h2 0 (by decide), h2 1 (by decide), h2 2 (by decide), h2 3 (by decide)⟩
  · rintro ⟨h1, h2, h3, h4, h5⟩
    refine ⟨h1, fun j hj => ?_⟩
    rcases (show j = 0 ∨ j = 1 ∨ j = 2 ∨ j = 3 by omega) with rfl | rfl | rfl | rfl
    · exact h2
    · exact h3
    · exact h4
    · exact h5
theorem y_at_in {d j : Nat} {n : Nat} {t : Nat → Nat} {M : Mem} (hT : TBm n t M) (hj : j < n) : Call l α D cA uX10_at d [.inr 50, .inl (nI j)] M (fun r M1 => r = .inl (nI (t j)) ∧ M1 = M) := by
  refine Call.of kX10_at.1 (Nat.le_of_ble_eq_true rfl) ?_
  have hn := hT.2.1
  refine G_iload_n dX10_at_0 rfl rfl ?_
  refine G_aload_n dX10_at_1 rfl rfl ?_
  refine G_getI (v := (nI n)) dX10_at_2 fX10_89 rfl rfl hT.1 ?_
  refine Gn_icmp_ge (tgt := 21) dX10_at_5 (by decide) (by omega) (by omega) (fun h5 => ?_) (fun h5 => ?_)
  · omega
  · refine G_aload_n dX10_at_8 rfl rfl ?_
    refine G_getR (j := 57) dX10_at_9 fX10_29 rfl rfl ?_
    refine G_iload_n dX10_at_12 rfl rfl ?_
    refine G_bald (k := j) (v := (b8 (t j))) dX10_at_13 rfl (vp_in_nI (by omega) (by omega)) (nI_clamp (by omega)) (hT.2.2 j hj).1 ?_
    refine G_sipush (v := (nI 255)) dX10_at_14 (by decide) ?_
    refine G_iand (v := (nI (t j))) dX10_at_17 (b8_I (hT.2.2 j hj).2) ?_
    refine G_goto (tgt := 22) dX10_at_18 (by decide) ?_
    refine G_iret dX10_at_22 rfl rfl ?_
    exact ⟨rfl, rfl⟩
theorem y_at_out {d j : Nat} {n : Nat} {t : Nat → Nat} {M : Mem} (hT : TBm n t M) (hj : ¬ j < n) (hb : j < 2 ^ 31) : Call l α D cA uX10_at d [.inr 50, .inl (nI j)] M (fun r M1 => r = .inl (-1) ∧ M1 = M) := by
  refine Call.of kX10_at.1 (Nat.le_of_ble_eq_true rfl) ?_
  have hn := hT.2.1
  refine G_iload_n dX10_at_0 rfl rfl ?_
  refine G_aload_n dX10_at_1 rfl rfl ?_
  refine G_getI (v := (nI n)) dX10_at_2 fX10_89 rfl rfl hT.1 ?_
  refine Gn_icmp_ge (tgt := 21) dX10_at_5 (by decide) (by omega) (by omega) (fun h5 => ?_) (fun h5 => ?_)
  · refine G_iconst (v := ((-1))) dX10_at_21 (by decide) ?_
    refine G_iret dX10_at_22 rfl rfl ?_
    exact ⟨rfl, rfl⟩
  · omega
theorem y_isWord_0 {d s e : Nat} {n : Nat} {t : Nat → Nat} {M : Mem} (hT : TBm n t M) (h11 : M 50 11 = nI s) (h12 : M 50 12 = nI e) (hse : s ≤ e) (hen : e ≤ n) : Call l α D cA uX10_isWord (d + 1) [.inr 50, .inl (nI 114), .inl (nI 111), .inl (nI 119), .inl (nI 0)] M (fun r M1 => r = .inl (bI (dec (isV t s e 0))) ∧ M1 = M) := by
  refine Call.of kX10_isWord.1 (Nat.le_of_ble_eq_true rfl) ?_
  have hn := hT.2.1
  have heq := isV_3 (t := t) (s := s) (e := e) (w := 0) (by decide) (by decide : wch 0 0 = 114) (by decide : wch 0 1 = 111) (by decide : wch 0 2 = 119)
  refine G_iload dX10_isWord_0 rfl ?_
  refine Gn_if_ne (tgt := 9) dX10_isWord_2 (by decide) (by omega) (fun h2 => ?_) (fun h2 => ?_)
  · omega
  · refine G_iconst (v := (nI 3)) dX10_isWord_5 (by decide) ?_
    refine G_goto (tgt := 10) dX10_isWord_6 (by decide) ?_
    refine G_istore (L2 := [some (.inr 50), some (.inl (nI 114)), some (.inl (nI 111)), some (.inl (nI 119)), some (.inl (nI 0)), some (.inl (nI 3))]) dX10_isWord_10 (Nat.le_of_ble_eq_true rfl) rfl ?_
    refine G_aload_n dX10_isWord_12 rfl rfl ?_
    refine G_getI (v := (nI e)) dX10_isWord_13 fX10_92 rfl rfl h12 ?_
    refine G_aload_n dX10_isWord_16 rfl rfl ?_
    refine G_getI (v := (nI s)) dX10_isWord_17 fX10_95 rfl rfl h11 ?_
    refine G_isub (v := (nI (e - s))) dX10_isWord_20 (pk_sub (by omega)) ?_
    refine G_iload dX10_isWord_21 rfl ?_
    refine Gn_icmp_ne (tgt := 90) dX10_isWord_23 (by decide) (by omega) (by omega) (fun h23 => ?_) (fun h23 => ?_)
    · refine G_iconst (v := (nI 0)) dX10_isWord_90 (by decide) ?_
      refine G_iret dX10_isWord_91 rfl (by decide) ?_
      exact ⟨by rw [bI_df (P := isV t s e 0) (fun q => by have q := heq.mp q; omega)], rfl⟩
    · refine G_aload_n dX10_isWord_26 rfl rfl ?_
      refine G_aload_n dX10_isWord_27 rfl rfl ?_
      refine G_getI (v := (nI s)) dX10_isWord_28 fX10_95 rfl rfl h11 ?_
      refine G_callVi (ν := uX10_at) (As := [.inl (nI s)]) dX10_isWord_31 nX10_98 kX10_at rfl rfl rfl rfl rfl (Nat.le_of_ble_eq_true rfl) (y_at_in hT (show s < n by omega)) ?_
      rintro _ M8 ⟨rfl, e9⟩
      subst M8
      have hb31 := (hT.2.2 (s) (by omega)).2
      refine G_iload_n dX10_isWord_34 rfl rfl ?_
      refine Gn_icmp_ne (tgt := 90) dX10_isWord_35 (by decide) (by omega) (by omega) (fun h35 => ?_) (fun h35 => ?_)
      · refine G_iconst (v := (nI 0)) dX10_isWord_90 (by decide) ?_
        refine G_iret dX10_isWord_91 rfl (by decide) ?_
        exact ⟨by rw [bI_df (P := isV t s e 0) (fun q => by have q := heq.mp q; omega)], rfl⟩
      · refine G_aload_n dX10_isWord_38 rfl rfl ?_
        refine G_aload_n dX10_isWord_39 rfl rfl ?_
        refine G_getI (v := (nI s)) dX10_isWord_40 fX10_95 rfl rfl h11 ?_
        refine G_iconst (v := (nI 1)) dX10_isWord_43 (by decide) ?_
        refine G_iadd (v := (nI (s + 1))) dX10_isWord_44 (nI_add _ _) ?_
        refine G_callVi (ν := uX10_at) (As := [.inl (nI (s + 1))]) dX10_isWord_45 nX10_98 kX10_at rfl rfl rfl rfl rfl (Nat.le_of_ble_eq_true rfl) (y_at_in hT (show s + 1 < n by omega)) ?_
        rintro _ M8 ⟨rfl, e9⟩
        subst M8
        have hb45 := (hT.2.2 (s + 1) (by omega)).2
        refine G_iload_n dX10_isWord_48 rfl rfl ?_
        refine Gn_icmp_ne (tgt := 90) dX10_isWord_49 (by decide) (by omega) (by omega) (fun h49 => ?_) (fun h49 => ?_)
        · refine G_iconst (v := (nI 0)) dX10_isWord_90 (by decide) ?_
          refine G_iret dX10_isWord_91 rfl (by decide) ?_
          exact ⟨by rw [bI_df (P := isV t s e 0) (fun q => by have q := heq.mp q; omega)], rfl⟩
        · refine G_aload_n dX10_isWord_52 rfl rfl ?_
          refine G_aload_n dX10_isWord_53 rfl rfl ?_
          refine G_getI (v := (nI s)) dX10_isWord_54 fX10_95 rfl rfl h11 ?_
          refine G_iconst (v := (nI 2)) dX10_isWord_57 (by decide) ?_
          refine G_iadd (v := (nI (s + 2))) dX10_isWord_58 (nI_add _ _) ?_
          refine G_callVi (ν := uX10_at) (As := [.inl (nI (s + 2))]) dX10_isWord_59 nX10_98 kX10_at rfl rfl rfl rfl rfl (Nat.le_of_ble_eq_true rfl) (y_at_in hT (show s + 2 < n by omega)) ?_
          rintro _ M8 ⟨rfl, e9⟩
          subst M8
          have hb59 := (hT.2.2 (s + 2) (by omega)).2
          refine G_iload_n dX10_isWord_62 rfl rfl ?_
          refine Gn_icmp_ne (tgt := 90) dX10_isWord_63 (by decide) (by omega) (by omega) (fun h63 => ?_) (fun h63 => ?_)
          · refine G_iconst (v := (nI 0)) dX10_isWord_90 (by decide) ?_
            refine G_iret dX10_isWord_91 rfl (by decide) ?_
            exact ⟨by rw [bI_df (P := isV t s e 0) (fun q => by have q := heq.mp q; omega)], rfl⟩
          · refine G_iload dX10_isWord_66 rfl ?_
            refine Gn_if_eq (tgt := 86) dX10_isWord_68 (by decide) (by omega) (fun h68 => ?_) (fun h68 => ?_)
            · refine G_iconst (v := (nI 1)) dX10_isWord_86 (by decide) ?_
              refine G_goto (tgt := 91) dX10_isWord_87 (by decide) ?_
              refine G_iret dX10_isWord_91 rfl (by decide) ?_
              exact ⟨by rw [bI_dt (P := isV t s e 0) (heq.mpr (by omega))], rfl⟩
            · omega
theorem y_isWord_1 {d s e : Nat} {n : Nat} {t : Nat → Nat} {M : Mem} (hT : TBm n t M) (h11 : M 50 11 = nI s) (h12 : M 50 12 = nI e) (hse : s ≤ e) (hen : e ≤ n) : Call l α D cA uX10_isWord (d + 1) [.inr 50, .inl (nI 119), .inl (nI 97), .inl (nI 121), .inl (nI 0)] M (fun r M1 => r = .inl (bI (dec (isV t s e 1))) ∧ M1 = M) := by
  refine Call.of kX10_isWord.1 (Nat.le_of_ble_eq_true rfl) ?_
  have hn := hT.2.1
  have heq := isV_3 (t := t) (s := s) (e := e) (w := 1) (by decide) (by decide : wch 1 0 = 119) (by decide : wch 1 1 = 97) (by decide : wch 1 2 = 121)
  refine G_iload dX10_isWord_0 rfl ?_
  refine Gn_if_ne (tgt := 9) dX10_isWord_2 (by decide) (by omega) (fun h2 => ?_) (fun h2 => ?_)
  · omega
  · refine G_iconst (v := (nI 3)) dX10_isWord_5 (by decide) ?_
    refine G_goto (tgt := 10) dX10_isWord_6 (by decide) ?_
    refine G_istore (L2 := [some (.inr 50), some (.inl (nI 119)), some (.inl (nI 97)), some (.inl (nI 121)), some (.inl (nI 0)), some (.inl (nI 3))]) dX10_isWord_10 (Nat.le_of_ble_eq_true rfl) rfl ?_
    refine G_aload_n dX10_isWord_12 rfl rfl ?_
    refine G_getI (v := (nI e)) dX10_isWord_13 fX10_92 rfl rfl h12 ?_
    refine G_aload_n dX10_isWord_16 rfl rfl ?_
    refine G_getI (v := (nI s)) dX10_isWord_17 fX10_95 rfl rfl h11 ?_
    refine G_isub (v := (nI (e - s))) dX10_isWord_20 (pk_sub (by omega)) ?_
    refine G_iload dX10_isWord_21 rfl ?_
    refine Gn_icmp_ne (tgt := 90) dX10_isWord_23 (by decide) (by omega) (by omega) (fun h23 => ?_) (fun h23 => ?_)
    · refine G_iconst (v := (nI 0)) dX10_isWord_90 (by decide) ?_
      refine G_iret dX10_isWord_91 rfl (by decide) ?_
      exact ⟨by rw [bI_df (P := isV t s e 1) (fun q => by have q := heq.mp q; omega)], rfl⟩
    · refine G_aload_n dX10_isWord_26 rfl rfl ?_
      refine G_aload_n dX10_isWord_27 rfl rfl ?_
      refine G_getI (v := (nI s)) dX10_isWord_28 fX10_95 rfl rfl h11 ?_
      refine G_callVi (ν := uX10_at) (As := [.inl (nI s)]) dX10_isWord_31 nX10_98 kX10_at rfl rfl rfl rfl rfl (Nat.le_of_ble_eq_true rfl) (y_at_in hT (show s < n by omega)) ?_
      rintro _ M8 ⟨rfl, e9⟩
      subst M8
      have hb31 := (hT.2.2 (s) (by omega)).2
      refine G_iload_n dX10_isWord_34 rfl rfl ?_
      refine Gn_icmp_ne (tgt := 90) dX10_isWord_35 (by decide) (by omega) (by omega) (fun h35 => ?_) (fun h35 => ?_)
      · refine G_iconst (v := (nI 0)) dX10_isWord_90 (by decide) ?_
        refine G_iret dX10_isWord_91 rfl (by decide) ?_
        exact ⟨by rw [bI_df (P := isV t s e 1) (fun q => by have q := heq.mp q; omega)], rfl⟩
      · refine G_aload_n dX10_isWord_38 rfl rfl ?_
        refine G_aload_n dX10_isWord_39 rfl rfl ?_
        refine G_getI (v := (nI s)) dX10_isWord_40 fX10_95 rfl rfl h11 ?_
        refine G_iconst (v := (nI 1)) dX10_isWord_43 (by decide) ?_
        refine G_iadd (v := (nI (s + 1))) dX10_isWord_44 (nI_add _ _) ?_
        refine G_callVi (ν := uX10_at) (As := [.inl (nI (s + 1))]) dX10_isWord_45 nX10_98 kX10_at rfl rfl rfl rfl rfl (Nat.le_of_ble_eq_true rfl) (y_at_in hT (show s + 1 < n by omega)) ?_
        rintro _ M8 ⟨rfl, e9⟩
        subst M8
        have hb45 := (hT.2.2 (s + 1) (by omega)).2
        refine G_iload_n dX10_isWord_48 rfl rfl ?_
        refine Gn_icmp_ne (tgt := 90) dX10_isWord_49 (by decide) (by omega) (by omega) (fun h49 => ?_) (fun h49 => ?_)
        · refine G_iconst (v := (nI 0)) dX10_isWord_90 (by decide) ?_
          refine G_iret dX10_isWord_91 rfl (by decide) ?_
          exact ⟨by rw [bI_df (P := isV t s e 1) (fun q => by have q := heq.mp q; omega)], rfl⟩
        · refine G_aload_n dX10_isWord_52 rfl rfl ?_
          refine G_aload_n dX10_isWord_53 rfl rfl ?_
          refine G_getI (v := (nI s)) dX10_isWord_54 fX10_95 rfl rfl h11 ?_
          refine G_iconst (v := (nI 2)) dX10_isWord_57 (by decide) ?_
          refine G_iadd (v := (nI (s + 2))) dX10_isWord_58 (nI_add _ _) ?_
          refine G_callVi (ν := uX10_at) (As := [.inl (nI (s + 2))]) dX10_isWord_59 nX10_98 kX10_at rfl rfl rfl rfl rfl (Nat.le_of_ble_eq_true rfl) (y_at_in hT (show s + 2 < n by omega)) ?_
          rintro _ M8 ⟨rfl, e9⟩
          subst M8
          have hb59 := (hT.2.2 (s + 2) (by omega)).2
          refine G_iload_n dX10_isWord_62 rfl rfl ?_
          refine Gn_icmp_ne (tgt := 90) dX10_isWord_63 (by decide) (by omega) (by omega) (fun h63 => ?_) (fun h63 => ?_)
          · refine G_iconst (v := (nI 0)) dX10_isWord_90 (by decide) ?_
            refine G_iret dX10_isWord_91 rfl (by decide) ?_
            exact ⟨by rw [bI_df (P := isV t s e 1) (fun q => by have q := heq.mp q; omega)], rfl⟩
          · refine G_iload dX10_isWord_66 rfl ?_
            refine Gn_if_eq (tgt := 86) dX10_isWord_68 (by decide) (by omega) (fun h68 => ?_) (fun h68 => ?_)
            · refine G_iconst (v := (nI 1)) dX10_isWord_86 (by decide) ?_
              refine G_goto (tgt := 91) dX10_isWord_87 (by decide) ?_
              refine G_iret dX10_isWord_91 rfl (by decide) ?_
              exact ⟨by rw [bI_dt (P := isV t s e 1) (heq.mpr (by omega))], rfl⟩
            · omega
theorem y_isWord_2 {d s e : Nat} {n : Nat} {t : Nat → Nat} {M : Mem} (hT : TBm n t M) (h11 : M 50 11 = nI s) (h12 : M 50 12 = nI e) (hse : s ≤ e) (hen : e ≤ n) : Call l α D cA uX10_isWord (d + 1) [.inr 50, .inl (nI 114), .inl (nI 97), .inl (nI 110), .inl (nI 107)] M (fun r M1 => r = .inl (bI (dec (isV t s e 2))) ∧ M1 = M) := by
  refine Call.of kX10_isWord.1 (Nat.le_of_ble_eq_true rfl) ?_
  have hn := hT.2.1
  have heq := isV_4 (t := t) (s := s) (e := e) (w := 2) (by decide) (by decide : wch 2 0 = 114) (by decide : wch 2 1 = 97) (by decide : wch 2 2 = 110) (by decide : wch 2 3 = 107)
  refine G_iload dX10_isWord_0 rfl ?_
  refine Gn_if_ne (tgt := 9) dX10_isWord_2 (by decide) (by omega) (fun h2 => ?_) (fun h2 => ?_)
  · refine G_iconst (v := (nI 4)) dX10_isWord_9 (by decide) ?_
    refine G_istore (L2 := [some (.inr 50), some (.inl (nI 114)), some (.inl (nI 97)), some (.inl (nI 110)), some (.inl (nI 107)), some (.inl (nI 4))]) dX10_isWord_10 (Nat.le_of_ble_eq_true rfl) rfl ?_
    refine G_aload_n dX10_isWord_12 rfl rfl ?_
    refine G_getI (v := (nI e)) dX10_isWord_13 fX10_92 rfl rfl h12 ?_
    refine G_aload_n dX10_isWord_16 rfl rfl ?_
    refine G_getI (v := (nI s)) dX10_isWord_17 fX10_95 rfl rfl h11 ?_
    refine G_isub (v := (nI (e - s))) dX10_isWord_20 (pk_sub (by omega)) ?_
    refine G_iload dX10_isWord_21 rfl ?_
    refine Gn_icmp_ne (tgt := 90) dX10_isWord_23 (by decide) (by omega) (by omega) (fun h23 => ?_) (fun h23 => ?_)
    · refine G_iconst (v := (nI 0)) dX10_isWord_90 (by decide) ?_
      refine G_iret dX10_isWord_91 rfl (by decide) ?_
      exact ⟨by rw [bI_df (P := isV t s e 2) (fun q => by have q := heq.mp q; omega)], rfl⟩
    · refine G_aload_n dX10_isWord_26 rfl rfl ?_
      refine G_aload_n dX10_isWord_27 rfl rfl ?_
      refine G_getI (v := (nI s)) dX10_isWord_28 fX10_95 rfl rfl h11 ?_
      refine G_callVi (ν := uX10_at) (As := [.inl (nI s)]) dX10_isWord_31 nX10_98 kX10_at rfl rfl rfl rfl rfl (Nat.le_of_ble_eq_true rfl) (y_at_in hT (show s < n by omega)) ?_
      rintro _ M8 ⟨rfl, e9⟩
      subst M8
      have hb31 := (hT.2.2 (s) (by omega)).2
      refine G_iload_n dX10_isWord_34 rfl rfl ?_
      refine Gn_icmp_ne (tgt := 90) dX10_isWord_35 (by decide) (by omega) (by omega) (fun h35 => ?_) (fun h35 => ?_)
      · refine G_iconst (v := (nI 0)) dX10_isWord_90 (by decide) ?_
        refine G_iret dX10_isWord_91 rfl (by decide) ?_
        exact ⟨by rw [bI_df (P := isV t s e 2) (fun q => by have q := heq.mp q; omega)], rfl⟩
      · refine G_aload_n dX10_isWord_38 rfl rfl ?_
        refine G_aload_n dX10_isWord_39 rfl rfl ?_
        refine G_getI (v := (nI s)) dX10_isWord_40 fX10_95 rfl rfl h11 ?_
        refine G_iconst (v := (nI 1)) dX10_isWord_43 (by decide) ?_
        refine G_iadd (v := (nI (s + 1))) dX10_isWord_44 (nI_add _ _) ?_
        refine G_callVi (ν := uX10_at) (As := [.inl (nI (s + 1))]) dX10_isWord_45 nX10_98 kX10_at rfl rfl rfl rfl rfl (Nat.le_of_ble_eq_true rfl) (y_at_in hT (show s + 1 < n by omega)) ?_
        rintro _ M8 ⟨rfl, e9⟩
        subst M8
        have hb45 := (hT.2.2 (s + 1) (by omega)).2
        refine G_iload_n dX10_isWord_48 rfl rfl ?_
        refine Gn_icmp_ne (tgt := 90) dX10_isWord_49 (by decide) (by omega) (by omega) (fun h49 => ?_) (fun h49 => ?_)
        · refine G_iconst (v := (nI 0)) dX10_isWord_90 (by decide) ?_
          refine G_iret dX10_isWord_91 rfl (by decide) ?_
          exact ⟨by rw [bI_df (P := isV t s e 2) (fun q => by have q := heq.mp q; omega)], rfl⟩
        · refine G_aload_n dX10_isWord_52 rfl rfl ?_
          refine G_aload_n dX10_isWord_53 rfl rfl ?_
          refine G_getI (v := (nI s)) dX10_isWord_54 fX10_95 rfl rfl h11 ?_
          refine G_iconst (v := (nI 2)) dX10_isWord_57 (by decide) ?_
          refine G_iadd (v := (nI (s + 2))) dX10_isWord_58 (nI_add _ _) ?_
          refine G_callVi (ν := uX10_at) (As := [.inl (nI (s + 2))]) dX10_isWord_59 nX10_98 kX10_at rfl rfl rfl rfl rfl (Nat.le_of_ble_eq_true rfl) (y_at_in hT (show s + 2 < n by omega)) ?_
          rintro _ M8 ⟨rfl, e9⟩
          subst M8
          have hb59 := (hT.2.2 (s + 2) (by omega)).2
          refine G_iload_n dX10_isWord_62 rfl rfl ?_
          refine Gn_icmp_ne (tgt := 90) dX10_isWord_63 (by decide) (by omega) (by omega) (fun h63 => ?_) (fun h63 => ?_)
          · refine G_iconst (v := (nI 0)) dX10_isWord_90 (by decide) ?_
            refine G_iret dX10_isWord_91 rfl (by decide) ?_
            exact ⟨by rw [bI_df (P := isV t s e 2) (fun q => by have q := heq.mp q; omega)], rfl⟩
          · refine G_iload dX10_isWord_66 rfl ?_
            refine Gn_if_eq (tgt := 86) dX10_isWord_68 (by decide) (by omega) (fun h68 => ?_) (fun h68 => ?_)
            · omega
            · refine G_aload_n dX10_isWord_71 rfl rfl ?_
              refine G_aload_n dX10_isWord_72 rfl rfl ?_
              refine G_getI (v := (nI s)) dX10_isWord_73 fX10_95 rfl rfl h11 ?_
              refine G_iconst (v := (nI 3)) dX10_isWord_76 (by decide) ?_
              refine G_iadd (v := (nI (s + 3))) dX10_isWord_77 (nI_add _ _) ?_
              refine G_callVi (ν := uX10_at) (As := [.inl (nI (s + 3))]) dX10_isWord_78 nX10_98 kX10_at rfl rfl rfl rfl rfl (Nat.le_of_ble_eq_true rfl) (y_at_in hT (show s + 3 < n by omega)) ?_
              rintro _ M8 ⟨rfl, e9⟩
              subst M8
              have hb78 := (hT.2.2 (s + 3) (by omega)).2
              refine G_iload dX10_isWord_81 rfl ?_
              refine Gn_icmp_ne (tgt := 90) dX10_isWord_83 (by decide) (by omega) (by omega) (fun h83 => ?_) (fun h83 => ?_)
              · refine G_iconst (v := (nI 0)) dX10_isWord_90 (by decide) ?_
                refine G_iret dX10_isWord_91 rfl (by decide) ?_
                exact ⟨by rw [bI_df (P := isV t s e 2) (fun q => by have q := heq.mp q; omega)], rfl⟩
              · refine G_iconst (v := (nI 1)) dX10_isWord_86 (by decide) ?_
                refine G_goto (tgt := 91) dX10_isWord_87 (by decide) ?_
                refine G_iret dX10_isWord_91 rfl (by decide) ?_
                exact ⟨by rw [bI_dt (P := isV t s e 2) (heq.mpr (by omega))], rfl⟩
  · omega
theorem y_isWord_3 {d s e : Nat} {n : Nat} {t : Nat → Nat} {M : Mem} (hT : TBm n t M) (h11 : M 50 11 = nI s) (h12 : M 50 12 = nI e) (hse : s ≤ e) (hen : e ≤ n) : Call l α D cA uX10_isWord (d + 1) [.inr 50, .inl (nI 109), .inl (nI 111), .inl (nI 115), .inl (nI 116)] M (fun r M1 => r = .inl (bI (dec (isV t s e 3))) ∧ M1 = M) := by
  refine Call.of kX10_isWord.1 (Nat.le_of_ble_eq_true rfl) ?_
  have hn := hT.2.1
  have heq := isV_4 (t := t) (s := s) (e := e) (w := 3) (by decide) (by decide : wch 3 0 = 109) (by decide : wch 3 1 = 111) (by decide : wch 3 2 = 115) (by decide : wch 3 3 = 116)
  refine G_iload dX10_isWord_0 rfl ?_
  refine Gn_if_ne (tgt := 9) dX10_isWord_2 (by decide) (by omega) (fun h2 => ?_) (fun h2 => ?_)
  · refine G_iconst (v := (nI 4)) dX10_isWord_9 (by decide) ?_
    refine G_istore (L2 := [some (.inr 50), some (.inl (nI 109)), some (.inl (nI 111)), some (.inl (nI 115)), some (.inl (nI 116)), some (.inl (nI 4))]) dX10_isWord_10 (Nat.le_of_ble_eq_true rfl) rfl ?_
    refine G_aload_n dX10_isWord_12 rfl rfl ?_
    refine G_getI (v := (nI e)) dX10_isWord_13 fX10_92 rfl rfl h12 ?_
    refine G_aload_n dX10_isWord_16 rfl rfl ?_
    refine G_getI (v := (nI s)) dX10_isWord_17 fX10_95 rfl rfl h11 ?_
    refine G_isub (v := (nI (e - s))) dX10_isWord_20 (pk_sub (by omega)) ?_
    refine G_iload dX10_isWord_21 rfl ?_
    refine Gn_icmp_ne (tgt := 90) dX10_isWord_23 (by decide) (by omega) (by omega) (fun h23 => ?_) (fun h23 => ?_)
    · refine G_iconst (v := (nI 0)) dX10_isWord_90 (by decide) ?_
      refine G_iret dX10_isWord_91 rfl (by decide) ?_
      exact ⟨by rw [bI_df (P := isV t s e 3) (fun q => by have q := heq.mp q; omega)], rfl⟩
    · refine G_aload_n dX10_isWord_26 rfl rfl ?_
      refine G_aload_n dX10_isWord_27 rfl rfl ?_
      refine G_getI (v := (nI s)) dX10_isWord_28 fX10_95 rfl rfl h11 ?_
      refine G_callVi (ν := uX10_at) (As := [.inl (nI s)]) dX10_isWord_31 nX10_98 kX10_at rfl rfl rfl rfl rfl (Nat.le_of_ble_eq_true rfl) (y_at_in hT (show s < n by omega)) ?_
      rintro _ M8 ⟨rfl, e9⟩
      subst M8
      have hb31 := (hT.2.2 (s) (by omega)).2
      refine G_iload_n dX10_isWord_34 rfl rfl ?_
      refine Gn_icmp_ne (tgt := 90) dX10_isWord_35 (by decide) (by omega) (by omega) (fun h35 => ?_) (fun h35 => ?_)
      · refine G_iconst (v := (nI 0)) dX10_isWord_90 (by decide) ?_
        refine G_iret dX10_isWord_91 rfl (by decide) ?_
        exact ⟨by rw [bI_df (P := isV t s e 3) (fun q => by have q := heq.mp q; omega)], rfl⟩
      · refine G_aload_n dX10_isWord_38 rfl rfl ?_
        refine G_aload_n dX10_isWord_39 rfl rfl ?_
        refine G_getI (v := (nI s)) dX10_isWord_40 fX10_95 rfl rfl h11 ?_
        refine G_iconst (v := (nI 1)) dX10_isWord_43 (by decide) ?_
        refine G_iadd (v := (nI (s + 1))) dX10_isWord_44 (nI_add _ _) ?_
        refine G_callVi (ν := uX10_at) (As := [.inl (nI (s + 1))]) dX10_isWord_45 nX10_98 kX10_at rfl rfl rfl rfl rfl (Nat.le_of_ble_eq_true rfl) (y_at_in hT (show s + 1 < n by omega)) ?_
        rintro _ M8 ⟨rfl, e9⟩
        subst M8
        have hb45 := (hT.2.2 (s + 1) (by omega)).2
        refine G_iload_n dX10_isWord_48 rfl rfl ?_
        refine Gn_icmp_ne (tgt := 90) dX10_isWord_49 (by decide) (by omega) (by omega) (fun h49 => ?_) (fun h49 => ?_)
        · refine G_iconst (v := (nI 0)) dX10_isWord_90 (by decide) ?_
          refine G_iret dX10_isWord_91 rfl (by decide) ?_
          exact ⟨by rw [bI_df (P := isV t s e 3) (fun q => by have q := heq.mp q; omega)], rfl⟩
        · refine G_aload_n dX10_isWord_52 rfl rfl ?_
          refine G_aload_n dX10_isWord_53 rfl rfl ?_
          refine G_getI (v := (nI s)) dX10_isWord_54 fX10_95 rfl rfl h11 ?_
          refine G_iconst (v := (nI 2)) dX10_isWord_57 (by decide) ?_
          refine G_iadd (v := (nI (s + 2))) dX10_isWord_58 (nI_add _ _) ?_
          refine G_callVi (ν := uX10_at) (As := [.inl (nI (s + 2))]) dX10_isWord_59 nX10_98 kX10_at rfl rfl rfl rfl rfl (Nat.le_of_ble_eq_true rfl) (y_at_in hT (show s + 2 < n by omega)) ?_
          rintro _ M8 ⟨rfl, e9⟩
          subst M8
          have hb59 := (hT.2.2 (s + 2) (by omega)).2
          refine G_iload_n dX10_isWord_62 rfl rfl ?_
          refine Gn_icmp_ne (tgt := 90) dX10_isWord_63 (by decide) (by omega) (by omega) (fun h63 => ?_) (fun h63 => ?_)
          · refine G_iconst (v := (nI 0)) dX10_isWord_90 (by decide) ?_
            refine G_iret dX10_isWord_91 rfl (by decide) ?_
            exact ⟨by rw [bI_df (P := isV t s e 3) (fun q => by have q := heq.mp q; omega)], rfl⟩
          · refine G_iload dX10_isWord_66 rfl ?_
            refine Gn_if_eq (tgt := 86) dX10_isWord_68 (by decide) (by omega) (fun h68 => ?_) (fun h68 => ?_)
            · omega
            · refine G_aload_n dX10_isWord_71 rfl rfl ?_
              refine G_aload_n dX10_isWord_72 rfl rfl ?_
              refine G_getI (v := (nI s)) dX10_isWord_73 fX10_95 rfl rfl h11 ?_
              refine G_iconst (v := (nI 3)) dX10_isWord_76 (by decide) ?_
              refine G_iadd (v := (nI (s + 3))) dX10_isWord_77 (nI_add _ _) ?_
              refine G_callVi (ν := uX10_at) (As := [.inl (nI (s + 3))]) dX10_isWord_78 nX10_98 kX10_at rfl rfl rfl rfl rfl (Nat.le_of_ble_eq_true rfl) (y_at_in hT (show s + 3 < n by omega)) ?_
              rintro _ M8 ⟨rfl, e9⟩
              subst M8
              have hb78 := (hT.2.2 (s + 3) (by omega)).2
              refine G_iload dX10_isWord_81 rfl ?_
              refine Gn_icmp_ne (tgt := 90) dX10_isWord_83 (by decide) (by omega) (by omega) (fun h83 => ?_) (fun h83 => ?_)
              · refine G_iconst (v := (nI 0)) dX10_isWord_90 (by decide) ?_
                refine G_iret dX10_isWord_91 rfl (by decide) ?_
                exact ⟨by rw [bI_df (P := isV t s e 3) (fun q => by have q := heq.mp q; omega)], rfl⟩
              · refine G_iconst (v := (nI 1)) dX10_isWord_86 (by decide) ?_
                refine G_goto (tgt := 91) dX10_isWord_87 (by decide) ?_
                refine G_iret dX10_isWord_91 rfl (by decide) ?_
                exact ⟨by rw [bI_dt (P := isV t s e 3) (heq.mpr (by omega))], rfl⟩
  · omega
theorem y_isWord_4 {d s e : Nat} {n : Nat} {t : Nat → Nat} {M : Mem} (hT : TBm n t M) (h11 : M 50 11 = nI s) (h12 : M 50 12 = nI e) (hse : s ≤ e) (hen : e ≤ n) : Call l α D cA uX10_isWord (d + 1) [.inr 50, .inl (nI 112), .inl (nI 117), .inl (nI 108), .inl (nI 108)] M (fun r M1 => r = .inl (bI (dec (isV t s e 4))) ∧ M1 = M) := by
  refine Call.of kX10_isWord.1 (Nat.le_of_ble_eq_true rfl) ?_
  have hn := hT.2.1
  have heq := isV_4 (t := t) (s := s) (e := e) (w := 4) (by decide) (by decide : wch 4 0 = 112) (by decide : wch 4 1 = 117) (by decide : wch 4 2 = 108) (by decide : wch 4 3 = 108)
  refine G_iload dX10_isWord_0 rfl ?_
  refine Gn_if_ne (tgt := 9) dX10_isWord_2 (by decide) (by omega) (fun h2 => ?_) (fun h2 => ?_)
  · refine G_iconst (v := (nI 4)) dX10_isWord_9 (by decide) ?_
    refine G_istore (L2 := [some (.inr 50), some (.inl (nI 112)), some (.inl (nI 117)), some (.inl (nI 108)), some (.inl (nI 108)), some (.inl (nI 4))]) dX10_isWord_10 (Nat.le_of_ble_eq_true rfl) rfl ?_
    refine G_aload_n dX10_isWord_12 rfl rfl ?_
    refine G_getI (v := (nI e)) dX10_isWord_13 fX10_92 rfl rfl h12 ?_
    refine G_aload_n dX10_isWord_16 rfl rfl ?_
    refine G_getI (v := (nI s)) dX10_isWord_17 fX10_95 rfl rfl h11 ?_
    refine G_isub (v := (nI (e - s))) dX10_isWord_20 (pk_sub (by omega)) ?_
    refine G_iload dX10_isWord_21 rfl ?_
    refine Gn_icmp_ne (tgt := 90) dX10_isWord_23 (by decide) (by omega) (by omega) (fun h23 => ?_) (fun h23 => ?_)
    · refine G_iconst (v := (nI 0)) dX10_isWord_90 (by decide) ?_
      refine G_iret dX10_isWord_91 rfl (by decide) ?_
      exact ⟨by rw [bI_df (P := isV t s e 4) (fun q => by have q := heq.mp q; omega)], rfl⟩
    · refine G_aload_n dX10_isWord_26 rfl rfl ?_
      refine G_aload_n dX10_isWord_27 rfl rfl ?_
      refine G_getI (v := (nI s)) dX10_isWord_28 fX10_95 rfl rfl h11 ?_
      refine G_callVi (ν := uX10_at) (As := [.inl (nI s)]) dX10_isWord_31 nX10_98 kX10_at rfl rfl rfl rfl rfl (Nat.le_of_ble_eq_true rfl) (y_at_in hT (show s < n by omega)) ?_
      rintro _ M8 ⟨rfl, e9⟩
      subst M8
      have hb31 := (hT.2.2 (s) (by omega)).2
      refine G_iload_n dX10_isWord_34 rfl rfl ?_
      refine Gn_icmp_ne (tgt := 90) dX10_isWord_35 (by decide) (by omega) (by omega) (fun h35 => ?_) (fun h35 => ?_)
      · refine G_iconst (v := (nI 0)) dX10_isWord_90 (by decide) ?_
        refine G_iret dX10_isWord_91 rfl (by decide) ?_
        exact ⟨by rw [bI_df (P := isV t s e 4) (fun q => by have q := heq.mp q; omega)], rfl⟩
      · refine G_aload_n dX10_isWord_38 rfl rfl ?_
        refine G_aload_n dX10_isWord_39 rfl rfl ?_
        refine G_getI (v := (nI s)) dX10_isWord_40 fX10_95 rfl rfl h11 ?_
        refine G_iconst (v := (nI 1)) dX10_isWord_43 (by decide) ?_
        refine G_iadd (v := (nI (s + 1))) dX10_isWord_44 (nI_add _ _) ?_
        refine G_callVi (ν := uX10_at) (As := [.inl (nI (s + 1))]) dX10_isWord_45 nX10_98 kX10_at rfl rfl rfl rfl rfl (Nat.le_of_ble_eq_true rfl) (y_at_in hT (show s + 1 < n by omega)) ?_
        rintro _ M8 ⟨rfl, e9⟩
        subst M8
        have hb45 := (hT.2.2 (s + 1) (by omega)).2
        refine G_iload_n dX10_isWord_48 rfl rfl ?_
        refine Gn_icmp_ne (tgt := 90) dX10_isWord_49 (by decide) (by omega) (by omega) (fun h49 => ?_) (fun h49 => ?_)
        · refine G_iconst (v := (nI 0)) dX10_isWord_90 (by decide) ?_
          refine G_iret dX10_isWord_91 rfl (by decide) ?_
          exact ⟨by rw [bI_df (P := isV t s e 4) (fun q => by have q := heq.mp q; omega)], rfl⟩
        · refine G_aload_n dX10_isWord_52 rfl rfl ?_
          refine G_aload_n dX10_isWord_53 rfl rfl ?_
          refine G_getI (v := (nI s)) dX10_isWord_54 fX10_95 rfl rfl h11 ?_
          refine G_iconst (v := (nI 2)) dX10_isWord_57 (by decide) ?_
          refine G_iadd (v := (nI (s + 2))) dX10_isWord_58 (nI_add _ _) ?_
          refine G_callVi (ν := uX10_at) (As := [.inl (nI (s + 2))]) dX10_isWord_59 nX10_98 kX10_at rfl rfl rfl rfl rfl (Nat.le_of_ble_eq_true rfl) (y_at_in hT (show s + 2 < n by omega)) ?_
          rintro _ M8 ⟨rfl, e9⟩
          subst M8
          have hb59 := (hT.2.2 (s + 2) (by omega)).2
          refine G_iload_n dX10_isWord_62 rfl rfl ?_
          refine Gn_icmp_ne (tgt := 90) dX10_isWord_63 (by decide) (by omega) (by omega) (fun h63 => ?_) (fun h63 => ?_)
          · refine G_iconst (v := (nI 0)) dX10_isWord_90 (by decide) ?_
            refine G_iret dX10_isWord_91 rfl (by decide) ?_
            exact ⟨by rw [bI_df (P := isV t s e 4) (fun q => by have q := heq.mp q; omega)], rfl⟩
          · refine G_iload dX10_isWord_66 rfl ?_
            refine Gn_if_eq (tgt := 86) dX10_isWord_68 (by decide) (by omega) (fun h68 => ?_) (fun h68 => ?_)
            · omega
            · refine G_aload_n dX10_isWord_71 rfl rfl ?_
              refine G_aload_n dX10_isWord_72 rfl rfl ?_
              refine G_getI (v := (nI s)) dX10_isWord_73 fX10_95 rfl rfl h11 ?_
              refine G_iconst (v := (nI 3)) dX10_isWord_76 (by decide) ?_
              refine G_iadd (v := (nI (s + 3))) dX10_isWord_77 (nI_add _ _) ?_
              refine G_callVi (ν := uX10_at) (As := [.inl (nI (s + 3))]) dX10_isWord_78 nX10_98 kX10_at rfl rfl rfl rfl rfl (Nat.le_of_ble_eq_true rfl) (y_at_in hT (show s + 3 < n by omega)) ?_
              rintro _ M8 ⟨rfl, e9⟩
              subst M8
              have hb78 := (hT.2.2 (s + 3) (by omega)).2
              refine G_iload dX10_isWord_81 rfl ?_
              refine Gn_icmp_ne (tgt := 90) dX10_isWord_83 (by decide) (by omega) (by omega) (fun h83 => ?_) (fun h83 => ?_)
              · refine G_iconst (v := (nI 0)) dX10_isWord_90 (by decide) ?_
                refine G_iret dX10_isWord_91 rfl (by decide) ?_
                exact ⟨by rw [bI_df (P := isV t s e 4) (fun q => by have q := heq.mp q; omega)], rfl⟩
              · refine G_iconst (v := (nI 1)) dX10_isWord_86 (by decide) ?_
                refine G_goto (tgt := 91) dX10_isWord_87 (by decide) ?_
                refine G_iret dX10_isWord_91 rfl (by decide) ?_
                exact ⟨by rw [bI_dt (P := isV t s e 4) (heq.mpr (by omega))], rfl⟩
  · omega
theorem nott {b : Bool} (h : b = false) : ¬ b = true := by rw [h]; decide
theorem y_wordOf {d s e : Nat} {n : Nat} {t : Nat → Nat} {M : Mem} (hT : TBm n t M) (g11 : M 50 11 = nI s) (g12 : M 50 12 = nI e) (hse : s ≤ e) (hen : e ≤ n) : Call l α D cA uX10_wordOf (d + 2) [.inr 50] M (fun r M1 => r = .inl (nI (mW t s e)) ∧ M1 = M) := by
  refine Call.of kX10_wordOf.1 (Nat.le_of_ble_eq_true rfl) ?_
  refine G_aload_n dX10_wordOf_0 rfl rfl ?_
  refine G_bipush (v := (nI 114)) dX10_wordOf_1 (by decide) ?_
  refine G_bipush (v := (nI 111)) dX10_wordOf_3 (by decide) ?_
  refine G_bipush (v := (nI 119)) dX10_wordOf_5 (by decide) ?_
  refine G_iconst (v := (nI 0)) dX10_wordOf_7 (by decide) ?_
  refine G_callVi (ν := uX10_isWord) (As := [.inl (nI 114), .inl (nI 111), .inl (nI 119), .inl (nI 0)]) dX10_wordOf_8 nX10_102 kX10_isWord rfl rfl rfl rfl rfl (Nat.le_of_ble_eq_true rfl) (y_isWord_0 hT g11 g12 hse hen) ?_
  rintro _ M8 ⟨rfl, e9⟩
  subst M8
  refine Gb_if_eq (tgt := 16) dX10_wordOf_11 (by decide) (fun h11 => ?_) (fun h11 => ?_)
  · refine G_aload_n dX10_wordOf_16 rfl rfl ?_
    refine G_bipush (v := (nI 119)) dX10_wordOf_17 (by decide) ?_
    refine G_bipush (v := (nI 97)) dX10_wordOf_19 (by decide) ?_
    refine G_bipush (v := (nI 121)) dX10_wordOf_21 (by decide) ?_
    refine G_iconst (v := (nI 0)) dX10_wordOf_23 (by decide) ?_
    refine G_callVi (ν := uX10_isWord) (As := [.inl (nI 119), .inl (nI 97), .inl (nI 121), .inl (nI 0)]) dX10_wordOf_24 nX10_102 kX10_isWord rfl rfl rfl rfl rfl (Nat.le_of_ble_eq_true rfl) (y_isWord_1 hT g11 g12 hse hen) ?_
    rintro _ M8 ⟨rfl, e9⟩
    subst M8
    refine Gb_if_eq (tgt := 32) dX10_wordOf_27 (by decide) (fun h27 => ?_) (fun h27 => ?_)
    · refine G_aload_n dX10_wordOf_32 rfl rfl ?_
      refine G_bipush (v := (nI 114)) dX10_wordOf_33 (by decide) ?_
      refine G_bipush (v := (nI 97)) dX10_wordOf_35 (by decide) ?_
      refine G_bipush (v := (nI 110)) dX10_wordOf_37 (by decide) ?_
      refine G_bipush (v := (nI 107)) dX10_wordOf_39 (by decide) ?_
      refine G_callVi (ν := uX10_isWord) (As := [.inl (nI 114), .inl (nI 97), .inl (nI 110), .inl (nI 107)]) dX10_wordOf_41 nX10_102 kX10_isWord rfl rfl rfl rfl rfl (Nat.le_of_ble_eq_true rfl) (y_isWord_2 hT g11 g12 hse hen) ?_
      rintro _ M8 ⟨rfl, e9⟩
      subst M8
      refine Gb_if_eq (tgt := 49) dX10_wordOf_44 (by decide) (fun h44 => ?_) (fun h44 => ?_)
      · refine G_aload_n dX10_wordOf_49 rfl rfl ?_
        refine G_bipush (v := (nI 109)) dX10_wordOf_50 (by decide) ?_
        refine G_bipush (v := (nI 111)) dX10_wordOf_52 (by decide) ?_
        refine G_bipush (v := (nI 115)) dX10_wordOf_54 (by decide) ?_
        refine G_bipush (v := (nI 116)) dX10_wordOf_56 (by decide) ?_
        refine G_callVi (ν := uX10_isWord) (As := [.inl (nI 109), .inl (nI 111), .inl (nI 115), .inl (nI 116)]) dX10_wordOf_58 nX10_102 kX10_isWord rfl rfl rfl rfl rfl (Nat.le_of_ble_eq_true rfl) (y_isWord_3 hT g11 g12 hse hen) ?_
        rintro _ M8 ⟨rfl, e9⟩
        subst M8
        refine Gb_if_eq (tgt := 68) dX10_wordOf_61 (by decide) (fun h61 => ?_) (fun h61 => ?_)
        · refine G_aload_n dX10_wordOf_68 rfl rfl ?_
          refine G_bipush (v := (nI 112)) dX10_wordOf_69 (by decide) ?_
          refine G_bipush (v := (nI 117)) dX10_wordOf_71 (by decide) ?_
          refine G_bipush (v := (nI 108)) dX10_wordOf_73 (by decide) ?_
          refine G_bipush (v := (nI 108)) dX10_wordOf_75 (by decide) ?_
          refine G_callVi (ν := uX10_isWord) (As := [.inl (nI 112), .inl (nI 117), .inl (nI 108), .inl (nI 108)]) dX10_wordOf_77 nX10_102 kX10_isWord rfl rfl rfl rfl rfl (Nat.le_of_ble_eq_true rfl) (y_isWord_4 hT g11 g12 hse hen) ?_
          rintro _ M8 ⟨rfl, e9⟩
          subst M8
          refine Gb_if_eq (tgt := 87) dX10_wordOf_80 (by decide) (fun h80 => ?_) (fun h80 => ?_)
          · refine G_bipush (v := (nI 8)) dX10_wordOf_87 (by decide) ?_
            refine G_iret dX10_wordOf_89 rfl rfl ?_
            exact ⟨by rw [mW, if_neg (nott h11), if_neg (nott h27), if_neg (nott h44), if_neg (nott h61), if_neg (nott h80)], rfl⟩
          · refine G_iconst (v := (nI 5)) dX10_wordOf_83 (by decide) ?_
            refine G_goto (tgt := 89) dX10_wordOf_84 (by decide) ?_
            refine G_iret dX10_wordOf_89 rfl rfl ?_
            exact ⟨by rw [mW, if_neg (nott h11), if_neg (nott h27), if_neg (nott h44), if_neg (nott h61), if_pos h80], rfl⟩
        · refine G_iconst (v := (nI 4)) dX10_wordOf_64 (by decide) ?_
          refine G_goto (tgt := 89) dX10_wordOf_65 (by decide) ?_
          refine G_iret dX10_wordOf_89 rfl rfl ?_
          exact ⟨by rw [mW, if_neg (nott h11), if_neg (nott h27), if_neg (nott h44), if_pos h61], rfl⟩
      · refine G_iconst (v := (nI 3)) dX10_wordOf_47 (by decide) ?_
        refine G_iret dX10_wordOf_48 rfl rfl ?_
        exact ⟨by rw [mW, if_neg (nott h11), if_neg (nott h27), if_pos h44], rfl⟩
    · refine G_iconst (v := (nI 2)) dX10_wordOf_30 (by decide) ?_
      refine G_iret dX10_wordOf_31 rfl rfl ?_
      exact ⟨by rw [mW, if_neg (nott h11), if_pos h27], rfl⟩
  · refine G_iconst (v := (nI 1)) dX10_wordOf_14 (by decide) ?_
    refine G_iret dX10_wordOf_15 rfl rfl ?_
    exact ⟨by rw [mW, if_pos h11], rfl⟩
theorem ly_runD {d i e0 s0 : Nat} {n : Nat} {t : Nat → Nat} {M : Mem} (hT : TBm n t M) {Q : AV → Mem → Prop} (out : ∀ M1 : Mem, FK M M1 → M1 50 11 = nI s0 → M1 50 12 = nI e0 → e0 ≤ n → G l α D cA uX10_steps none (d + 3) Q 110 [some (.inr 50)] [] M1) : ∀ (k j : Nat) (M1 : Mem), n - j = k → j ≤ n → FK M M1 → M1 50 11 = nI s0 → M1 50 12 = nI j → run (tkP n t 3) n j = e0 → G l α D cA uX10_steps none (d + 3) Q 79 [some (.inr 50)] [] M1 := by
  intro k
  induction k using Nat.strongRecOn with
  | _ k ih => ?_
  intro j M1 hkk hjn hF h11 h12 hr
  have hn := hT.2.1
  have hT1 := TB_K hT hF
  by_cases hj : j < n
  · have hb9 := (hT.2.2 j hj).2
    refine G_aload_n dX10_steps_79 rfl rfl ?_
    refine G_aload_n dX10_steps_80 rfl rfl ?_
    refine G_getI (v := (nI j)) dX10_steps_81 fX10_92 rfl rfl h12 ?_
    refine G_callVi (ν := uX10_at) (As := [.inl (nI j)]) dX10_steps_84 nX10_98 kX10_at rfl rfl rfl rfl rfl (Nat.le_of_ble_eq_true rfl) (y_at_in hT1 hj) ?_
    rintro _ M8 ⟨rfl, e9⟩
    subst M8
    refine G_bipush (v := (nI 48)) dX10_steps_87 (by decide) ?_
    refine G_bipush (v := (nI 57)) dX10_steps_89 (by decide) ?_
    refine G_callSi (ν := uX10_in) (As := [.inl (nI (t j)), .inl (nI 48), .inl (nI 57)]) dX10_steps_91 nX10_85 kX10_in rfl rfl rfl (Nat.le_of_ble_eq_true rfl) (y_inI (lo := 48) (hi := 57)) ?_
    rintro _ M8 ⟨rfl, e9⟩
    subst M8
    refine Gb_if_eq (tgt := 110) dX10_steps_94 (by decide) (fun h94 => ?_) (fun h94 => ?_)
    · have e : j = e0 := by
        rw [← hr]
        refine (run_st (fun q => ?_)).symm
        unfold tkP at q
        have q := of_decide_eq_true q.2
        exact dec_niff.mp h94 ((inI_nn (by omega) (by omega) (by omega)).mpr ((knd_d hj).mp q.2))
      subst e
      exact out M1 hF h11 h12 (by omega)
    · refine G_aload_n dX10_steps_97 rfl rfl ?_
      refine G_dup dX10_steps_98 ?_
      refine G_getI (v := (nI j)) dX10_steps_99 fX10_92 rfl rfl h12 ?_
      refine G_iconst (v := (nI 1)) dX10_steps_102 (by decide) ?_
      refine G_iadd (v := (nI (j + 1))) dX10_steps_103 (nI_add _ _) ?_
      refine G_put dX10_steps_104 pX10_92 rfl rfl ?_
      refine G_goto (tgt := 79) dX10_steps_107 (by decide) ?_
      refine ih (n - (j + 1)) (by omega) (j + 1) _ rfl (by omega) (FK_ms hF (by decide)) (by rw [ms_o, upd_n (by decide)]; exact h11) (by rw [ms_o]; exact upd_k) ?_
      rw [← hr, run_go hj]
      unfold tkP
      rw [(knd_d hj).mpr ((inI_nn (by omega) (by omega) (by omega)).mp (dec_iff.mp h94))]
      decide
  · skip
    refine G_aload_n dX10_steps_79 rfl rfl ?_
    refine G_aload_n dX10_steps_80 rfl rfl ?_
    refine G_getI (v := (nI j)) dX10_steps_81 fX10_92 rfl rfl h12 ?_
    refine G_callVi (ν := uX10_at) (As := [.inl (nI j)]) dX10_steps_84 nX10_98 kX10_at rfl rfl rfl rfl rfl (Nat.le_of_ble_eq_true rfl) (y_at_out hT1 hj (by omega)) ?_
    rintro _ M8 ⟨rfl, e9⟩
    subst M8
    refine G_bipush (v := (nI 48)) dX10_steps_87 (by decide) ?_
    refine G_bipush (v := (nI 57)) dX10_steps_89 (by decide) ?_
    refine G_callSi (ν := uX10_in) (As := [.inl (-1), .inl (nI 48), .inl (nI 57)]) dX10_steps_91 nX10_85 kX10_in rfl rfl rfl (Nat.le_of_ble_eq_true rfl) (y_inI (lo := 48) (hi := 57)) ?_
    rintro _ M8 ⟨rfl, e9⟩
    subst M8
    refine Gb_if_eq (tgt := 110) dX10_steps_94 (by decide) (fun h94 => ?_) (fun h94 => ?_)
    · have e : j = e0 := by
        rw [← hr]
        refine (run_st (fun q => ?_)).symm
        exact hj q.1
      subst e
      exact out M1 hF h11 h12 (by omega)
    · exact absurd (dec_iff.mp h94).1 (by decide)
theorem ly_runL {d i e0 s0 : Nat} {n : Nat} {t : Nat → Nat} {M : Mem} (hT : TBm n t M) {Q : AV → Mem → Prop} (out : ∀ M1 : Mem, FK M M1 → M1 50 11 = nI s0 → M1 50 12 = nI e0 → e0 ≤ n → G l α D cA uX10_steps none (d + 3) Q 168 [some (.inr 50)] [] M1) : ∀ (k j : Nat) (M1 : Mem), n - j = k → j ≤ n → FK M M1 → M1 50 11 = nI s0 → M1 50 12 = nI j → run (tkP n t 2) n j = e0 → G l α D cA uX10_steps none (d + 3) Q 137 [some (.inr 50)] [] M1 := by
  intro k
  induction k using Nat.strongRecOn with
  | _ k ih => ?_
  intro j M1 hkk hjn hF h11 h12 hr
  have hn := hT.2.1
  have hT1 := TB_K hT hF
  by_cases hj : j < n
  · have hb9 := (hT.2.2 j hj).2
    refine G_aload_n dX10_steps_137 rfl rfl ?_
    refine G_aload_n dX10_steps_138 rfl rfl ?_
    refine G_getI (v := (nI j)) dX10_steps_139 fX10_92 rfl rfl h12 ?_
    refine G_callVi (ν := uX10_at) (As := [.inl (nI j)]) dX10_steps_142 nX10_98 kX10_at rfl rfl rfl rfl rfl (Nat.le_of_ble_eq_true rfl) (y_at_in hT1 hj) ?_
    rintro _ M8 ⟨rfl, e9⟩
    subst M8
    refine G_bipush (v := (nI 97)) dX10_steps_145 (by decide) ?_
    refine G_bipush (v := (nI 122)) dX10_steps_147 (by decide) ?_
    refine G_callSi (ν := uX10_in) (As := [.inl (nI (t j)), .inl (nI 97), .inl (nI 122)]) dX10_steps_149 nX10_85 kX10_in rfl rfl rfl (Nat.le_of_ble_eq_true rfl) (y_inI (lo := 97) (hi := 122)) ?_
    rintro _ M8 ⟨rfl, e9⟩
    subst M8
    refine Gb_if_eq (tgt := 168) dX10_steps_152 (by decide) (fun h152 => ?_) (fun h152 => ?_)
    · have e : j = e0 := by
        rw [← hr]
        refine (run_st (fun q => ?_)).symm
        unfold tkP at q
        have q := of_decide_eq_true q.2
        exact dec_niff.mp h152 ((inI_nn (by omega) (by omega) (by omega)).mpr ((knd_l hj).mp q.2))
      subst e
      exact out M1 hF h11 h12 (by omega)
    · refine G_aload_n dX10_steps_155 rfl rfl ?_
      refine G_dup dX10_steps_156 ?_
      refine G_getI (v := (nI j)) dX10_steps_157 fX10_92 rfl rfl h12 ?_
      refine G_iconst (v := (nI 1)) dX10_steps_160 (by decide) ?_
      refine G_iadd (v := (nI (j + 1))) dX10_steps_161 (nI_add _ _) ?_
      refine G_put dX10_steps_162 pX10_92 rfl rfl ?_
      refine G_goto (tgt := 137) dX10_steps_165 (by decide) ?_
      refine ih (n - (j + 1)) (by omega) (j + 1) _ rfl (by omega) (FK_ms hF (by decide)) (by rw [ms_o, upd_n (by decide)]; exact h11) (by rw [ms_o]; exact upd_k) ?_
      rw [← hr, run_go hj]
      unfold tkP
      rw [(knd_l hj).mpr ((inI_nn (by omega) (by omega) (by omega)).mp (dec_iff.mp h152))]
      decide
  · skip
    refine G_aload_n dX10_steps_137 rfl rfl ?_
    refine G_aload_n dX10_steps_138 rfl rfl ?_
    refine G_getI (v := (nI j)) dX10_steps_139 fX10_92 rfl rfl h12 ?_
    refine G_callVi (ν := uX10_at) (As := [.inl (nI j)]) dX10_steps_142 nX10_98 kX10_at rfl rfl rfl rfl rfl (Nat.le_of_ble_eq_true rfl) (y_at_out hT1 hj (by omega)) ?_
    rintro _ M8 ⟨rfl, e9⟩
    subst M8
    refine G_bipush (v := (nI 97)) dX10_steps_145 (by decide) ?_
    refine G_bipush (v := (nI 122)) dX10_steps_147 (by decide) ?_
    refine G_callSi (ν := uX10_in) (As := [.inl (-1), .inl (nI 97), .inl (nI 122)]) dX10_steps_149 nX10_85 kX10_in rfl rfl rfl (Nat.le_of_ble_eq_true rfl) (y_inI (lo := 97) (hi := 122)) ?_
    rintro _ M8 ⟨rfl, e9⟩
    subst M8
    refine Gb_if_eq (tgt := 168) dX10_steps_152 (by decide) (fun h152 => ?_) (fun h152 => ?_)
    · have e : j = e0 := by
        rw [← hr]
        refine (run_st (fun q => ?_)).symm
        exact hj q.1
      subst e
      exact out M1 hF h11 h12 (by omega)
    · exact absurd (dec_iff.mp h152).1 (by decide)
theorem ly_stp2 {d i : Nat} {n : Nat} {t : Nat → Nat} {M : Mem} (hT : TBm n t M) (hi : i ≤ n) {s : Nat} {M1 : Mem} (hs : tkS n t i = s) (hsn : s ≤ n) (hF : FK M M1) (h11 : M1 50 11 = nI s) : G l α D cA uX10_steps none (d + 3) (fun _ M1 => FK M M1 ∧ TKm n t i M1) 34 [some (.inr 50)] [] M1 := by
  have hn := hT.2.1
  have hT1 := TB_K hT hF
  have hT2 : TBm n t (ms M1 50 12 (nI s)) := TB_K hT (FK_ms hF (by decide))
  have hK : tkK n t i = knd n t s := by rw [tkK, hs]
  have hE : tkE n t i = run (tkP n t (knd n t s)) n (if knd n t s = 0 then s else s + 1) := by rw [tkE, hK, hs]
  refine G_aload_n dX10_steps_34 rfl rfl ?_
  refine G_aload_n dX10_steps_35 rfl rfl ?_
  refine G_getI (v := (nI s)) dX10_steps_36 fX10_95 rfl rfl h11 ?_
  refine G_put dX10_steps_39 pX10_92 rfl rfl ?_
  by_cases hj : s < n
  · have hb9 := (hT.2.2 s hj).2
    refine G_aload_n dX10_steps_42 rfl rfl ?_
    refine G_aload_n dX10_steps_43 rfl rfl ?_
    refine G_getI (v := (nI s)) dX10_steps_44 fX10_92 rfl rfl (by rw [ms_o]; exact upd_k) ?_
    refine G_callVi (ν := uX10_at) (As := [.inl (nI s)]) dX10_steps_47 nX10_98 kX10_at rfl rfl rfl rfl rfl (Nat.le_of_ble_eq_true rfl) (y_at_in hT2 hj) ?_
    rintro _ M8 ⟨rfl, e9⟩
    subst M8
    refine Gn_if_ge (tgt := 61) dX10_steps_50 (by decide) (by omega) (fun h50 => ?_) (fun h50 => ?_)
    · refine G_aload_n dX10_steps_61 rfl rfl ?_
      refine G_aload_n dX10_steps_62 rfl rfl ?_
      refine G_getI (v := (nI s)) dX10_steps_63 fX10_92 rfl rfl (by rw [ms_o]; exact upd_k) ?_
      refine G_callVi (ν := uX10_at) (As := [.inl (nI s)]) dX10_steps_66 nX10_98 kX10_at rfl rfl rfl rfl rfl (Nat.le_of_ble_eq_true rfl) (y_at_in hT2 hj) ?_
      rintro _ M8 ⟨rfl, e9⟩
      subst M8
      refine G_bipush (v := (nI 48)) dX10_steps_69 (by decide) ?_
      refine G_bipush (v := (nI 57)) dX10_steps_71 (by decide) ?_
      refine G_callSi (ν := uX10_in) (As := [.inl (nI (t s)), .inl (nI 48), .inl (nI 57)]) dX10_steps_73 nX10_85 kX10_in rfl rfl rfl (Nat.le_of_ble_eq_true rfl) (y_inI (lo := 48) (hi := 57)) ?_
      rintro _ M8 ⟨rfl, e9⟩
      subst M8
      refine Gb_if_eq (tgt := 119) dX10_steps_76 (by decide) (fun h76 => ?_) (fun h76 => ?_)
      · refine G_aload_n dX10_steps_119 rfl rfl ?_
        refine G_aload_n dX10_steps_120 rfl rfl ?_
        refine G_getI (v := (nI s)) dX10_steps_121 fX10_92 rfl rfl (by rw [ms_o]; exact upd_k) ?_
        refine G_callVi (ν := uX10_at) (As := [.inl (nI s)]) dX10_steps_124 nX10_98 kX10_at rfl rfl rfl rfl rfl (Nat.le_of_ble_eq_true rfl) (y_at_in hT2 hj) ?_
        rintro _ M8 ⟨rfl, e9⟩
        subst M8
        refine G_bipush (v := (nI 97)) dX10_steps_127 (by decide) ?_
        refine G_bipush (v := (nI 122)) dX10_steps_129 (by decide) ?_
        refine G_callSi (ν := uX10_in) (As := [.inl (nI (t s)), .inl (nI 97), .inl (nI 122)]) dX10_steps_131 nX10_85 kX10_in rfl rfl rfl (Nat.le_of_ble_eq_true rfl) (y_inI (lo := 97) (hi := 122)) ?_
        rintro _ M8 ⟨rfl, e9⟩
        subst M8
        refine Gb_if_eq (tgt := 179) dX10_steps_134 (by decide) (fun h134 => ?_) (fun h134 => ?_)
        · refine G_aload_n dX10_steps_179 rfl rfl ?_
          refine G_aload_n dX10_steps_180 rfl rfl ?_
          refine G_aload_n dX10_steps_181 rfl rfl ?_
          refine G_getI (v := (nI s)) dX10_steps_182 fX10_92 rfl rfl (by rw [ms_o]; exact upd_k) ?_
          refine G_callVi (ν := uX10_at) (As := [.inl (nI s)]) dX10_steps_185 nX10_98 kX10_at rfl rfl rfl rfl rfl (Nat.le_of_ble_eq_true rfl) (y_at_in hT2 hj) ?_
          rintro _ M8 ⟨rfl, e9⟩
          subst M8
          refine G_bipush (v := (nI 59)) dX10_steps_188 (by decide) ?_
          refine Gn_icmp_ne (tgt := 198) dX10_steps_190 (by decide) (by omega) (by omega) (fun h190 => ?_) (fun h190 => ?_)
          · refine G_bipush (v := (nI 8)) dX10_steps_198 (by decide) ?_
            refine G_put dX10_steps_200 pX10_106 rfl rfl ?_
            refine G_aload_n dX10_steps_203 rfl rfl ?_
            refine G_dup dX10_steps_204 ?_
            refine G_getI (v := (nI s)) dX10_steps_205 fX10_92 rfl rfl (by rw [ms_o, upd_n (by decide), ms_o]; exact upd_k) ?_
            refine G_iconst (v := (nI 1)) dX10_steps_208 (by decide) ?_
            refine G_iadd (v := (nI (s + 1))) dX10_steps_209 (nI_add _ _) ?_
            refine G_put dX10_steps_210 pX10_92 rfl rfl ?_
            refine G_vret dX10_steps_213 rfl ?_
            have n3 : ¬ knd n t s = 3 := fun q => dec_niff.mp h76 ((inI_nn (by omega) (by omega) (by omega)).mpr ((knd_d hj).mp q))
            have n2 : ¬ knd n t s = 2 := fun q => dec_niff.mp h134 ((inI_nn (by omega) (by omega) (by omega)).mpr ((knd_l hj).mp q))
            have n0 : ¬ knd n t s = 0 := fun q => by have := knd_0.mp q; omega
            refine ⟨FK_ms (FK_ms (FK_ms hF (by decide)) (by decide)) (by decide), by rw [ms_o, upd_n (by decide), ms_o, upd_n (by decide), ms_o, upd_n (by decide), hs]; exact h11, ?_, ?_⟩
            · rw [ms_o, upd_k, hE, if_neg n0, run_st (fun q => by have q := of_decide_eq_true q.2; omega)]
            · rw [ms_o, upd_n (by decide), ms_o, upd_k, mtk, hK, if_neg n0, if_neg n3, if_neg n2, if_neg (fun q => h190 ((knd_s hj).mp q))]
          · refine G_bipush (v := (nI 7)) dX10_steps_193 (by decide) ?_
            refine G_goto (tgt := 200) dX10_steps_195 (by decide) ?_
            refine G_put dX10_steps_200 pX10_106 rfl rfl ?_
            refine G_aload_n dX10_steps_203 rfl rfl ?_
            refine G_dup dX10_steps_204 ?_
            refine G_getI (v := (nI s)) dX10_steps_205 fX10_92 rfl rfl (by rw [ms_o, upd_n (by decide), ms_o]; exact upd_k) ?_
            refine G_iconst (v := (nI 1)) dX10_steps_208 (by decide) ?_
            refine G_iadd (v := (nI (s + 1))) dX10_steps_209 (nI_add _ _) ?_
            refine G_put dX10_steps_210 pX10_92 rfl rfl ?_
            refine G_vret dX10_steps_213 rfl ?_
            have n3 : ¬ knd n t s = 3 := fun q => dec_niff.mp h76 ((inI_nn (by omega) (by omega) (by omega)).mpr ((knd_d hj).mp q))
            have n2 : ¬ knd n t s = 2 := fun q => dec_niff.mp h134 ((inI_nn (by omega) (by omega) (by omega)).mpr ((knd_l hj).mp q))
            have n0 : ¬ knd n t s = 0 := fun q => by have := knd_0.mp q; omega
            refine ⟨FK_ms (FK_ms (FK_ms hF (by decide)) (by decide)) (by decide), by rw [ms_o, upd_n (by decide), ms_o, upd_n (by decide), ms_o, upd_n (by decide), hs]; exact h11, ?_, ?_⟩
            · rw [ms_o, upd_k, hE, if_neg n0, run_st (fun q => by have q := of_decide_eq_true q.2; omega)]
            · rw [ms_o, upd_n (by decide), ms_o, upd_k, mtk, hK, if_neg n0, if_neg n3, if_neg n2, if_pos ((knd_s hj).mpr h190)]
        · have k2 : knd n t s = 2 := (knd_l hj).mpr ((inI_nn (by omega) (by omega) (by omega)).mp (dec_iff.mp h134))
          have hEe := tkE_in (n := n) (t := t) hi
          refine ly_runL (i := i) (e0 := tkE n t i) (s0 := s) hT (fun M2 hF2 g11 g12 ge => ?_) _ s _ rfl hsn (FK_ms hF (by decide)) (by rw [ms_o, upd_n (by decide)]; exact h11) (by rw [ms_o]; exact upd_k) ?_
          · refine G_aload_n dX10_steps_168 rfl rfl ?_
            refine G_aload_n dX10_steps_169 rfl rfl ?_
            refine G_callVi (ν := uX10_wordOf) (As := []) dX10_steps_170 nX10_109 kX10_wordOf rfl rfl rfl rfl rfl (Nat.le_of_ble_eq_true rfl) (y_wordOf (TB_K hT hF2) g11 g12 (by omega) ge) ?_
            rintro _ M8 ⟨rfl, e9⟩
            subst M8
            refine G_put dX10_steps_173 pX10_106 rfl rfl ?_
            refine G_goto (tgt := 213) dX10_steps_176 (by decide) ?_
            refine G_vret dX10_steps_213 rfl ?_
            exact ⟨FK_ms hF2 (by decide), by rw [ms_o, upd_n (by decide), hs]; exact g11, by rw [ms_o, upd_n (by decide)]; exact g12, by rw [ms_o, upd_k, mtk_2 (hK.trans k2), hs]⟩
          · rw [hE, k2, if_neg (by decide), run_go hj]
            unfold tkP
            rw [k2]
            decide
      · have k3 : knd n t s = 3 := (knd_d hj).mpr ((inI_nn (by omega) (by omega) (by omega)).mp (dec_iff.mp h76))
        refine ly_runD (i := i) (e0 := tkE n t i) (s0 := s) hT (fun M2 hF2 g11 g12 ge => ?_) _ s _ rfl hsn (FK_ms hF (by decide)) (by rw [ms_o, upd_n (by decide)]; exact h11) (by rw [ms_o]; exact upd_k) ?_
        · refine G_aload_n dX10_steps_110 rfl rfl ?_
          refine G_bipush (v := (nI 6)) dX10_steps_111 (by decide) ?_
          refine G_put dX10_steps_113 pX10_106 rfl rfl ?_
          refine G_goto (tgt := 213) dX10_steps_116 (by decide) ?_
          refine G_vret dX10_steps_213 rfl ?_
          exact ⟨FK_ms hF2 (by decide), by rw [ms_o, upd_n (by decide), hs]; exact g11, by rw [ms_o, upd_n (by decide)]; exact g12, by rw [ms_o, upd_k, mtk_3 (hK.trans k3)]⟩
        · rw [hE, k3, if_neg (by decide), run_go hj]
          unfold tkP
          rw [k3]
          decide
    · omega
  · skip
    refine G_aload_n dX10_steps_42 rfl rfl ?_
    refine G_aload_n dX10_steps_43 rfl rfl ?_
    refine G_getI (v := (nI s)) dX10_steps_44 fX10_92 rfl rfl (by rw [ms_o]; exact upd_k) ?_
    refine G_callVi (ν := uX10_at) (As := [.inl (nI s)]) dX10_steps_47 nX10_98 kX10_at rfl rfl rfl rfl rfl (Nat.le_of_ble_eq_true rfl) (y_at_out hT2 hj (by omega)) ?_
    rintro _ M8 ⟨rfl, e9⟩
    subst M8
    refine G_if_ge (tgt := 61) dX10_steps_50 (by decide) (fun h50 => ?_) (fun h50 => ?_)
    · exact absurd h50 (by decide)
    · refine G_aload_n dX10_steps_53 rfl rfl ?_
      refine G_iconst (v := (nI 0)) dX10_steps_54 (by decide) ?_
      refine G_put dX10_steps_55 pX10_106 rfl rfl ?_
      refine G_goto (tgt := 213) dX10_steps_58 (by decide) ?_
      refine G_vret dX10_steps_213 rfl ?_
      have k0 : knd n t s = 0 := knd_o hj
      refine ⟨FK_ms (FK_ms hF (by decide)) (by decide), by rw [ms_o, upd_n (by decide), ms_o, upd_n (by decide), hs]; exact h11, ?_, by rw [ms_o, upd_k, mtk_0 (hK.trans k0)]⟩
      rw [ms_o, upd_n (by decide), ms_o, upd_k, hE, k0, if_pos rfl, run_st (fun q => hj q.1)]
theorem ly_stp1 {d i : Nat} {n : Nat} {t : Nat → Nat} {M : Mem} (hT : TBm n t M) (hi : i ≤ n) : ∀ (k j : Nat) (M1 : Mem), n - j = k → j ≤ n → FK M M1 → M1 50 11 = nI j → run (fun x => knd n t x == 1) n j = tkS n t i → G l α D cA uX10_steps none (d + 3) (fun _ M1 => FK M M1 ∧ TKm n t i M1) 8 [some (.inr 50)] [] M1 := by
  intro k
  induction k using Nat.strongRecOn with
  | _ k ih => ?_
  intro j M1 hkk hjn hF h11 hr
  have hn := hT.2.1
  have hT1 := TB_K hT hF
  by_cases hj : j < n
  · have hb9 := (hT.2.2 j hj).2
    refine G_aload_n dX10_steps_8 rfl rfl ?_
    refine G_aload_n dX10_steps_9 rfl rfl ?_
    refine G_getI (v := (nI j)) dX10_steps_10 fX10_95 rfl rfl h11 ?_
    refine G_callVi (ν := uX10_at) (As := [.inl (nI j)]) dX10_steps_13 nX10_98 kX10_at rfl rfl rfl rfl rfl (Nat.le_of_ble_eq_true rfl) (y_at_in hT1 hj) ?_
    rintro _ M8 ⟨rfl, e9⟩
    subst M8
    refine G_bipush (v := (nI 32)) dX10_steps_16 (by decide) ?_
    refine Gn_icmp_ne (tgt := 34) dX10_steps_18 (by decide) (by omega) (by omega) (fun h18 => ?_) (fun h18 => ?_)
    · have e : tkS n t i = j := by
        rw [← hr]
        exact run_st (fun q => h18 (knd_1.mp q.2).2)
      exact ly_stp2 hT hi e hjn hF h11
    · refine G_aload_n dX10_steps_21 rfl rfl ?_
      refine G_dup dX10_steps_22 ?_
      refine G_getI (v := (nI j)) dX10_steps_23 fX10_95 rfl rfl h11 ?_
      refine G_iconst (v := (nI 1)) dX10_steps_26 (by decide) ?_
      refine G_iadd (v := (nI (j + 1))) dX10_steps_27 (nI_add _ _) ?_
      refine G_put dX10_steps_28 pX10_95 rfl rfl ?_
      refine G_goto (tgt := 8) dX10_steps_31 (by decide) ?_
      refine ih (n - (j + 1)) (by omega) (j + 1) _ rfl (by omega) (FK_ms hF (by decide)) (by rw [ms_o]; exact upd_k) ?_
      rw [← hr, run_go hj (knd_1.mpr ⟨hj, h18⟩)]
  · skip
    refine G_aload_n dX10_steps_8 rfl rfl ?_
    refine G_aload_n dX10_steps_9 rfl rfl ?_
    refine G_getI (v := (nI j)) dX10_steps_10 fX10_95 rfl rfl h11 ?_
    refine G_callVi (ν := uX10_at) (As := [.inl (nI j)]) dX10_steps_13 nX10_98 kX10_at rfl rfl rfl rfl rfl (Nat.le_of_ble_eq_true rfl) (y_at_out hT1 hj (by omega)) ?_
    rintro _ M8 ⟨rfl, e9⟩
    subst M8
    refine G_bipush (v := (nI 32)) dX10_steps_16 (by decide) ?_
    refine G_icmp_ne (tgt := 34) dX10_steps_18 (by decide) (fun h18 => ?_) (fun h18 => ?_)
    · have e : tkS n t i = j := by
        rw [← hr]
        exact run_st (fun q => hj q.1)
      exact ly_stp2 hT hi e hjn hF h11
    · exact absurd h18 (by decide)
theorem y_tok {d i : Nat} {n : Nat} {t : Nat → Nat} {M : Mem} (hT : TBm n t M) (hi : i ≤ n) (hto : M 50 12 = nI i) : Call l α D cA uX10_steps (d + 3) [.inr 50] M (fun _ M1 => FK M M1 ∧ TKm n t i M1) := by
  refine Call.of kX10_steps.1 (Nat.le_of_ble_eq_true rfl) ?_
  refine G_aload_n dX10_steps_0 rfl rfl ?_
  refine G_aload_n dX10_steps_1 rfl rfl ?_
  refine G_getI (v := (nI i)) dX10_steps_2 fX10_92 rfl rfl hto ?_
  refine G_put dX10_steps_5 pX10_95 rfl rfl ?_
  exact ly_stp1 hT hi _ i _ rfl hi (FK_ms FK_r (by decide)) (by rw [ms_o]; exact upd_k) rfl
end P40
