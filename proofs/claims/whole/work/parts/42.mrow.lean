/-! The reference: a row of the text -/
section P42
variable {l : Launch} {α : Nat → Nat} {D : va_G} {cA : Nat → ClassId}
theorem isDt_row {n : Nat} {t : Nat → Nat} {i a b : Nat} : isDt n t i a b 0 3 = true ↔ tkK n t i = 3 ∧ (a ≤ tkE n t i - tkS n t i ∧ tkE n t i - tkS n t i ≤ b) ∧ ∀ x, tkS n t i ≤ x → x < tkE n t i → t x ≤ 51 := by
  unfold isDt isD
  rw [dec_iff]
  constructor
  · rintro ⟨h1, h2, h3⟩
    refine ⟨h1, h2, fun x a b => ?_⟩
    have := h3 (x - tkS n t i) (by omega)
    rw [show tkS n t i + (x - tkS n t i) = x by omega] at this
    omega
  · rintro ⟨h1, h2, h3⟩
    refine ⟨h1, h2, fun j hj => ⟨Nat.zero_le _, ?_⟩⟩
    have := h3 (tkS n t i + j) (by omega) (by omega)
    omega
/-- the draft with a row more -/
theorem DR_row {n : Nat} {t : Nat → Nat} {i r len : Nat} {g : Nat → Nat} {f : Nat → Int32} (hD : DR g r f) (hP : PG r g) (h1 : 1 ≤ len) (h8 : len ≤ 8) (hw : r ≠ 0 → len = g 0) (hl : len = tkE n t i - tkS n t i) : DR (updN (updN (pnt n t i r g len) 0 len) 1 (r + 1)) (r + 1) (upd (fb_put (upd f 0 (nI len)) (fun x => nI (t (tkS n t i + x) - 48)) (12 + len * r) len) 1 (nI (r + 1))) := by
  obtain ⟨a, b, c, e⟩ := hD
  have e0 : updN (updN (pnt n t i r g len) 0 len) 1 (r + 1) 0 = len := by rw [updN_n (by omega), updN_k]
  have ej : ∀ j, 2 ≤ j → updN (updN (pnt n t i r g len) 0 len) 1 (r + 1) j = pnt n t i r g len j := fun j hj => by rw [updN_n (by omega), updN_n (by omega)]
  refine ⟨?_, upd_k, fun j j1 j2 => ?_, fun _ k hk => ?_⟩
  · rw [if_neg (Nat.succ_ne_zero r), e0, upd_n (by omega), fb_put_out (by omega), upd_k]
  · rw [upd_n (by omega), fb_put_out (by omega), upd_n (by omega), ej j j1, pnt_out (by omega)]
    exact c j j1 j2
  · rw [e0] at hk ⊢
    rw [upd_n (by omega), ej _ (by omega)]
    have hmul : len * (r + 1) = len * r + len := by rw [Nat.mul_add, Nat.mul_one]
    rcases Nat.lt_or_ge k (len * r) with z | z
    · have hr : r ≠ 0 := fun q => by rw [q] at z; simp at z
      have hk8 := pl_in (w := len) (h := r) z
      have hm := pl_d (c := k) h1 h8
      rw [fb_put_out (by omega), upd_n (by omega)]
      have q := e hr k (by rw [← hw hr]; exact z)
      rw [q, ← hw hr, pnt_out]
      left
      unfold pl
      omega
    · have hx : k = len * r + (k - len * r) := by omega
      have hpl : pl len k = 8 * r + (k - len * r) := by
        rw [hx]
        unfold pl
        rw [Nat.mul_add_div (by omega), Nat.mul_add_mod, Nat.div_eq_of_lt (by omega), Nat.mod_eq_of_lt (by omega)]
        omega
      rw [fb_put_in (by omega) (by omega), hpl, pnt_in (by omega), show 12 + k - (12 + len * r) = k - len * r by omega]
theorem ly_rowF {d n : Nat} {t : Nat → Nat} {s : RT} {M : Mem} (hT : TBm n t M) (hV : PV n s) (hD : DSm n t s M) (h6 : s.2.2 < 6) {Ma : Mem} (hFa : FK M Ma) (hKa : TKm n t (tkE n t s.1) Ma) (hno : ¬ pcD n t (tkE n t s.1, s.2) = true) {x3 : Option AV} : G l α D cA uX10_readsRow none (d + 5) (fun _ M1 => FPz M M1 ∧ STm n t (pCells n t (tkE n t s.1, s.2)) M1) 113 [some (.inr 50), some (.inl (nI (tkE n t (tkE n t s.1) - tkS n t (tkE n t s.1)))), some (.inl (nI 0)), x3] [] Ma := by
  have hn := hT.2.1
  have hi := hV.1
  have hi1 := (tkE_in (n := n) (t := t) hi).1
  have hE := tkE_in (n := n) (t := t) hi1
  have hm8 := mtk_8 (n := n) (t := t) (i := tkE n t s.1)
  have hPG := hV.2
  have hTa := TB_K hT hFa
  have h14a : Ma 50 14 = -9 := (hFa.2 14 (by decide) (by decide) (by decide)).trans hD.2.1
  have hDa : DR s.2.1 s.2.2 (Ma 52) := by rw [hFa.1 52 (by decide)]; exact hD.2.2
  refine G_aload_n dX10_readsRow_113 rfl rfl ?_
  refine G_getI (v := ((-9))) dX10_readsRow_114 fX10_113 rfl rfl h14a ?_
  refine G_bipush (v := ((-9))) dX10_readsRow_117 (by decide) ?_
  refine G_icmp_ne (tgt := 187) dX10_readsRow_119 (by decide) (fun h119 => ?_) (fun h119 => ?_)
  · exact absurd rfl h119
  · refine G_iload_n dX10_readsRow_122 rfl rfl ?_
    refine Gn_if_eq (tgt := 187) dX10_readsRow_123 (by decide) (by omega) (fun h123 => ?_) (fun h123 => ?_)
    · refine G_aload_n dX10_readsRow_187 rfl rfl ?_
      refine G_iload_n dX10_readsRow_188 rfl rfl ?_
      refine G_callVv (ν := uX10_takes) (As := [.inl (nI 0)]) dX10_readsRow_189 nX10_119 kX10_takes rfl rfl rfl rfl rfl (Nat.le_of_ble_eq_true rfl) (y_takes_f hKa h14a) ?_
      rintro _ M2 rfl
      refine G_vret dX10_readsRow_192 rfl ?_
      refine ⟨FPz_14 (FPz_K hFa), ?_⟩
      rw [pCells, if_neg hno]
      exact STm_f (TK_14 hKa) (by rw [ms_o]; exact upd_k)
    · omega
theorem ly_rowW {d n : Nat} {t : Nat → Nat} {s : RT} {M : Mem} (hT : TBm n t M) (hV : PV n s) (hD : DSm n t s M) (h6 : s.2.2 < 6) {Ma : Mem} (hFa : FK M Ma) (hKa : TKm n t (tkE n t s.1) Ma) (h3 : tkK n t (tkE n t s.1) = 3) (hl1 : 1 ≤ tkE n t (tkE n t s.1) - tkS n t (tkE n t s.1)) (hl8 : tkE n t (tkE n t s.1) - tkS n t (tkE n t s.1) ≤ 8) (hw : s.2.2 ≠ 0 → tkE n t (tkE n t s.1) - tkS n t (tkE n t s.1) = s.2.1 0) (hall : (∀ x, tkS n t (tkE n t s.1) ≤ x → x < tkE n t (tkE n t s.1) → t x ≤ 51)) : ∀ (k k0 : Nat) (M1 : Mem), tkE n t (tkE n t s.1) - tkS n t (tkE n t s.1) - k0 = k → k0 ≤ tkE n t (tkE n t s.1) - tkS n t (tkE n t s.1) → (∀ q, q ≠ 52 → M1 q = Ma q) → M1 52 = fb_put (upd (Ma 52) 0 (nI (tkE n t (tkE n t s.1) - tkS n t (tkE n t s.1)))) (fun x => nI (t ((tkS n t (tkE n t s.1)) + x) - 48)) (12 + (tkE n t (tkE n t s.1) - tkS n t (tkE n t s.1)) * s.2.2) k0 → G l α D cA uX10_readsRow none (d + 5) (fun _ M1 => FPz M M1 ∧ STm n t (pCells n t (tkE n t s.1, s.2)) M1) 135 [some (.inr 50), some (.inl (nI (tkE n t (tkE n t s.1) - tkS n t (tkE n t s.1)))), some (.inl (nI 1)), some (.inl (nI k0))] [] M1 := by
  have hn := hT.2.1
  have hi := hV.1
  have hi1 := (tkE_in (n := n) (t := t) hi).1
  have hE := tkE_in (n := n) (t := t) hi1
  have hm8 := mtk_8 (n := n) (t := t) (i := tkE n t s.1)
  have hPG := hV.2
  have hTa := TB_K hT hFa
  have h14a : Ma 50 14 = -9 := (hFa.2 14 (by decide) (by decide) (by decide)).trans hD.2.1
  have hDa : DR s.2.1 s.2.2 (Ma 52) := by rw [hFa.1 52 (by decide)]; exact hD.2.2
  obtain ⟨f1, f2, f3, f4⟩ := tk_dig hi1 h3
  have hmul : (tkE n t (tkE n t s.1) - tkS n t (tkE n t s.1)) * s.2.2 + (tkE n t (tkE n t s.1) - tkS n t (tkE n t s.1)) ≤ 48 := by
    have := Nat.mul_le_mul hl8 (show s.2.2 + 1 ≤ 6 by omega)
    rw [Nat.mul_add, Nat.mul_one] at this
    exact this
  have hpc : pcD n t (tkE n t s.1, s.2) = true := isDt_row.mpr ⟨h3, by by_cases z : s.2.2 = 0
                                                                       · simp only [if_pos z]; omega
                                                                       · simp only [if_neg z]; have := hw z; omega, hall⟩
  intro k
  induction k using Nat.strongRecOn with
  | _ k ih => ?_
  intro k0 M1 hkk hk0 hF hC
  have hT1 : TBm n t M1 := by
    unfold TBm
    rw [hF 50 (by decide), hF 57 (by decide)]
    exact hTa
  refine G_iload_n dX10_readsRow_135 rfl rfl ?_
  refine G_iload_n dX10_readsRow_136 rfl rfl ?_
  refine Gn_icmp_ge (tgt := 177) dX10_readsRow_137 (by decide) (by omega) (by omega) (fun h137 => ?_) (fun h137 => ?_)
  · refine G_aload_n dX10_readsRow_177 rfl rfl ?_
    refine G_getR (j := 52) dX10_readsRow_178 fX10_13 rfl rfl ?_
    refine G_iconst (v := (nI 1)) dX10_readsRow_181 (by decide) ?_
    refine G_dup2 dX10_readsRow_182 ?_
    refine G_iald (k := 1) (v := (nI (s.2.2))) dX10_readsRow_183 rfl (vp_in_nI (by decide) (by decide)) rfl (by rw [hC, fb_put_out (by omega), upd_n (by decide)]; exact hDa.2.1) ?_
    refine G_iconst (v := (nI 1)) dX10_readsRow_184 (by decide) ?_
    refine G_iadd (v := (nI ((s.2.2) + 1))) dX10_readsRow_185 (nI_add _ _) ?_
    refine G_iast (k := 1) (v := (nI ((s.2.2) + 1))) dX10_readsRow_186 rfl (vp_in_nI (by decide) (by decide)) rfl rfl ?_
    refine G_aload_n dX10_readsRow_187 rfl rfl ?_
    refine G_iload_n dX10_readsRow_188 rfl rfl ?_
    refine G_callVv (ν := uX10_takes) (As := [.inl (nI 1)]) dX10_readsRow_189 nX10_119 kX10_takes rfl rfl rfl rfl rfl (Nat.le_of_ble_eq_true rfl) (y_takes_t (i := tkE n t s.1) (by unfold TBm; rw [ms_q (by decide), ms_q (by decide)]; exact hT1) hi1 (TK_52 (by unfold TKm; rw [hF 50 (by decide)]; exact hKa)) (by rw [ms_q (by decide), hF 50 (by decide)]; exact h14a)) ?_
    rintro _ M2 ⟨hF2, hK2⟩
    refine G_vret dX10_readsRow_192 rfl ?_
    have e : k0 = tkE n t (tkE n t s.1) - tkS n t (tkE n t s.1) := by omega
    subst e
    have hFF : ∀ q, q ≠ 50 → q ≠ 52 → M2 q = M q := fun q a b => by rw [hF2.1 q a, ms_q b, hF q b, hFa.1 q a]
    refine ⟨⟨hFF, fun j hj => by rw [hF2.2 j (by omega) (by omega) (by omega), ms_q (by decide), hF 50 (by decide), hFa.2 j (by omega) (by omega) (by omega)]⟩, ?_⟩
    rw [pCells, if_pos hpc]
    refine STm_t ⟨hK2, by rw [hF2.2 14 (by decide) (by decide) (by decide), ms_q (by decide), hF 50 (by decide)]; exact h14a, ?_⟩
    rw [hF2.1 52 (by decide), ms_o, hC]
    exact DR_row hDa hPG hl1 hl8 hw rfl
  · have hfd := f4 ((tkS n t (tkE n t s.1)) + k0) (by omega) (by omega)
    refine G_aload_n dX10_readsRow_140 rfl rfl ?_
    refine G_getR (j := 52) dX10_readsRow_141 fX10_13 rfl rfl ?_
    refine G_bipush (v := (nI 12)) dX10_readsRow_144 (by decide) ?_
    refine G_iload_n dX10_readsRow_146 rfl rfl ?_
    refine G_aload_n dX10_readsRow_147 rfl rfl ?_
    refine G_getR (j := 52) dX10_readsRow_148 fX10_13 rfl rfl ?_
    refine G_iconst (v := (nI 1)) dX10_readsRow_151 (by decide) ?_
    refine G_iald (k := 1) (v := (nI (s.2.2))) dX10_readsRow_152 rfl (vp_in_nI (by decide) (by decide)) rfl (by rw [hC, fb_put_out (by omega), upd_n (by decide)]; exact hDa.2.1) ?_
    refine G_imul (v := (nI ((tkE n t (tkE n t s.1) - tkS n t (tkE n t s.1)) * (s.2.2)))) dX10_readsRow_153 (pk_mul _ _) ?_
    refine G_iadd (v := (nI (12 + ((tkE n t (tkE n t s.1) - tkS n t (tkE n t s.1)) * (s.2.2))))) dX10_readsRow_154 (nI_add _ _) ?_
    refine G_iload_n dX10_readsRow_155 rfl rfl ?_
    refine G_iadd (v := (nI ((12 + (tkE n t (tkE n t s.1) - tkS n t (tkE n t s.1)) * s.2.2) + k0))) dX10_readsRow_156 (by rw [nI_add]) ?_
    refine G_aload_n dX10_readsRow_157 rfl rfl ?_
    refine G_aload_n dX10_readsRow_158 rfl rfl ?_
    refine G_getI (v := (nI ((tkS n t (tkE n t s.1))))) dX10_readsRow_159 fX10_95 rfl rfl (by rw [hF 50 (by decide)]; exact hKa.1) ?_
    refine G_iload_n dX10_readsRow_162 rfl rfl ?_
    refine G_iadd (v := (nI (((tkS n t (tkE n t s.1))) + k0))) dX10_readsRow_163 (nI_add _ _) ?_
    refine G_callVi (ν := uX10_at) (As := [.inl (nI (((tkS n t (tkE n t s.1))) + k0))]) dX10_readsRow_164 nX10_98 kX10_at rfl rfl rfl rfl rfl (Nat.le_of_ble_eq_true rfl) (y_at_in hT1 (show ((tkS n t (tkE n t s.1))) + k0 < n by omega)) ?_
    rintro _ M8 ⟨rfl, e9⟩
    subst M8
    refine G_bipush (v := (nI 48)) dX10_readsRow_167 (by decide) ?_
    refine G_isub (v := (nI ((t (((tkS n t (tkE n t s.1))) + k0)) - 48))) dX10_readsRow_169 (pk_sub (by omega)) ?_
    refine G_iast (k := (12 + (tkE n t (tkE n t s.1) - tkS n t (tkE n t s.1)) * s.2.2) + k0) (v := (nI ((t (((tkS n t (tkE n t s.1))) + k0)) - 48))) dX10_readsRow_170 rfl (vp_in_nI (by omega) (by omega)) (nI_clamp (by omega)) rfl ?_
    refine G_iinc (v := (nI (k0 + 1))) (L2 := [some (.inr 50), some (.inl (nI (tkE n t (tkE n t s.1) - tkS n t (tkE n t s.1)))), some (.inl (nI 1)), some (.inl (nI (k0 + 1)))]) dX10_readsRow_171 rfl (nI_1 _) rfl ?_
    refine G_goto (tgt := 135) dX10_readsRow_174 (by decide) ?_
    refine ih (tkE n t (tkE n t s.1) - tkS n t (tkE n t s.1) - (k0 + 1)) (by omega) (k0 + 1) _ rfl (by omega) (fun q a => by rw [ms_q a]; exact hF q a) ?_
    rw [ms_o, hC]
    exact fb_put_succ _ _ _ _
theorem ly_rowC {d n : Nat} {t : Nat → Nat} {s : RT} {M : Mem} (hT : TBm n t M) (hV : PV n s) (hD : DSm n t s M) (h6 : s.2.2 < 6) {Ma : Mem} (hFa : FK M Ma) (hKa : TKm n t (tkE n t s.1) Ma) (h3 : tkK n t (tkE n t s.1) = 3) {Q : AV → Mem → Prop} (out : ∀ x3 : Option AV, G l α D cA uX10_readsRow none (d + 5) Q 113 [some (.inr 50), some (.inl (nI (tkE n t (tkE n t s.1) - tkS n t (tkE n t s.1)))), some (.inl (bI (dec (∀ x, tkS n t (tkE n t s.1) ≤ x → x < tkE n t (tkE n t s.1) → t x ≤ 51)))), x3] [] Ma) : ∀ (k k0 : Nat), tkE n t (tkE n t s.1) - k0 = k → tkS n t (tkE n t s.1) ≤ k0 → k0 ≤ tkE n t (tkE n t s.1) → G l α D cA uX10_readsRow none (d + 5) Q 79 [some (.inr 50), some (.inl (nI (tkE n t (tkE n t s.1) - tkS n t (tkE n t s.1)))), some (.inl (bI (dec (∀ x, tkS n t (tkE n t s.1) ≤ x → x < k0 → t x ≤ 51)))), some (.inl (nI k0))] [] Ma := by
  have hn := hT.2.1
  have hi := hV.1
  have hi1 := (tkE_in (n := n) (t := t) hi).1
  have hE := tkE_in (n := n) (t := t) hi1
  have hm8 := mtk_8 (n := n) (t := t) (i := tkE n t s.1)
  have hPG := hV.2
  have hTa := TB_K hT hFa
  have h14a : Ma 50 14 = -9 := (hFa.2 14 (by decide) (by decide) (by decide)).trans hD.2.1
  have hDa : DR s.2.1 s.2.2 (Ma 52) := by rw [hFa.1 52 (by decide)]; exact hD.2.2
  obtain ⟨f1, f2, f3, f4⟩ := tk_dig hi1 h3
  intro k
  induction k using Nat.strongRecOn with
  | _ k ih => ?_
  intro k0 hkk hk1 hk2
  refine G_iload_n dX10_readsRow_79 rfl rfl ?_
  refine G_aload_n dX10_readsRow_80 rfl rfl ?_
  refine G_getI (v := (nI (tkE n t (tkE n t s.1)))) dX10_readsRow_81 fX10_92 rfl rfl hKa.2.1 ?_
  refine Gn_icmp_ge (tgt := 113) dX10_readsRow_84 (by decide) (by omega) (by omega) (fun h84 => ?_) (fun h84 => ?_)
  · rw [show dec (∀ x, tkS n t (tkE n t s.1) ≤ x → x < k0 → t x ≤ 51) = dec (∀ x, tkS n t (tkE n t s.1) ≤ x → x < tkE n t (tkE n t s.1) → t x ≤ 51) from by rw [show k0 = tkE n t (tkE n t s.1) by omega]]
    exact out _
  · refine G_iload_n dX10_readsRow_87 rfl rfl ?_
    refine Gb_if_eq (tgt := 113) dX10_readsRow_88 (by decide) (fun h88 => ?_) (fun h88 => ?_)
    · rw [show dec (∀ x, tkS n t (tkE n t s.1) ≤ x → x < k0 → t x ≤ 51) = dec (∀ x, tkS n t (tkE n t s.1) ≤ x → x < tkE n t (tkE n t s.1) → t x ≤ 51) from by rw [h88]; exact (dec_f (fun q => dec_niff.mp h88 (fun x a b => q x a (by omega)))).symm]
      exact out _
    · refine G_aload_n dX10_readsRow_91 rfl rfl ?_
      refine G_iload_n dX10_readsRow_92 rfl rfl ?_
      refine G_callVi (ν := uX10_at) (As := [.inl (nI k0)]) dX10_readsRow_93 nX10_98 kX10_at rfl rfl rfl rfl rfl (Nat.le_of_ble_eq_true rfl) (y_at_in hTa (show k0 < n by omega)) ?_
      rintro _ M8 ⟨rfl, e9⟩
      subst M8
      have hb9 := (hTa.2.2 k0 (by omega)).2
      refine G_bipush (v := (nI 51)) dX10_readsRow_96 (by decide) ?_
      refine Gn_icmp_gt (tgt := 105) dX10_readsRow_98 (by decide) (by omega) (by omega) (fun h98 => ?_) (fun h98 => ?_)
      · refine G_iconst (v := (nI 0)) dX10_readsRow_105 (by decide) ?_
        refine G_istore_n (L2 := [some (.inr 50), some (.inl (nI (tkE n t (tkE n t s.1) - tkS n t (tkE n t s.1)))), some (.inl (nI 0)), some (.inl (nI k0))]) dX10_readsRow_106 rfl (Nat.le_of_ble_eq_true rfl) rfl ?_
        refine G_iinc (v := (nI (k0 + 1))) (L2 := [some (.inr 50), some (.inl (nI (tkE n t (tkE n t s.1) - tkS n t (tkE n t s.1)))), some (.inl (nI 0)), some (.inl (nI (k0 + 1)))]) dX10_readsRow_107 rfl (nI_1 _) rfl ?_
        refine G_goto (tgt := 79) dX10_readsRow_110 (by decide) ?_
        rw [show nI 0 = bI (dec (∀ x, tkS n t (tkE n t s.1) ≤ x → x < k0 + 1 → t x ≤ 51)) from bI_df (fun q => by have := q k0 hk1 (by omega); omega)]
        exact ih (tkE n t (tkE n t s.1) - (k0 + 1)) (by omega) (k0 + 1) rfl (by omega) (by omega)
      · refine G_iconst (v := (nI 1)) dX10_readsRow_101 (by decide) ?_
        refine G_goto (tgt := 106) dX10_readsRow_102 (by decide) ?_
        refine G_istore_n (L2 := [some (.inr 50), some (.inl (nI (tkE n t (tkE n t s.1) - tkS n t (tkE n t s.1)))), some (.inl (nI 1)), some (.inl (nI k0))]) dX10_readsRow_106 rfl (Nat.le_of_ble_eq_true rfl) rfl ?_
        refine G_iinc (v := (nI (k0 + 1))) (L2 := [some (.inr 50), some (.inl (nI (tkE n t (tkE n t s.1) - tkS n t (tkE n t s.1)))), some (.inl (nI 1)), some (.inl (nI (k0 + 1)))]) dX10_readsRow_107 rfl (nI_1 _) rfl ?_
        refine G_goto (tgt := 79) dX10_readsRow_110 (by decide) ?_
        rw [show nI 1 = bI (dec (∀ x, tkS n t (tkE n t s.1) ≤ x → x < k0 + 1 → t x ≤ 51)) from bI_dt (fun x a b => by
          rcases (show x < k0 ∨ x = k0 by omega) with z | z
          · exact dec_iff.mp h88 x a z
          · subst z; exact h98)]
        exact ih (tkE n t (tkE n t s.1) - (k0 + 1)) (by omega) (k0 + 1) rfl (by omega) (by omega)
theorem ly_rowZ {d n : Nat} {t : Nat → Nat} {s : RT} {M : Mem} (hT : TBm n t M) (hV : PV n s) (hD : DSm n t s M) (h6 : s.2.2 < 6) {Ma : Mem} (hFa : FK M Ma) (hKa : TKm n t (tkE n t s.1) Ma) (hno : ¬ pcD n t (tkE n t s.1, s.2) = true) (hle : tkS n t (tkE n t s.1) ≤ tkE n t (tkE n t s.1)) : G l α D cA uX10_readsRow none (d + 5) (fun _ M1 => FPz M M1 ∧ STm n t (pCells n t (tkE n t s.1, s.2)) M1) 79 [some (.inr 50), some (.inl (nI (tkE n t (tkE n t s.1) - tkS n t (tkE n t s.1)))), some (.inl (nI 0)), some (.inl (nI (tkS n t (tkE n t s.1))))] [] Ma := by
  have hn := hT.2.1
  have hi := hV.1
  have hi1 := (tkE_in (n := n) (t := t) hi).1
  have hE := tkE_in (n := n) (t := t) hi1
  have hm8 := mtk_8 (n := n) (t := t) (i := tkE n t s.1)
  have hPG := hV.2
  refine G_iload_n dX10_readsRow_79 rfl rfl ?_
  refine G_aload_n dX10_readsRow_80 rfl rfl ?_
  refine G_getI (v := (nI (tkE n t (tkE n t s.1)))) dX10_readsRow_81 fX10_92 rfl rfl hKa.2.1 ?_
  refine Gn_icmp_ge (tgt := 113) dX10_readsRow_84 (by decide) (by omega) (by omega) (fun h84 => ?_) (fun h84 => ?_)
  · exact ly_rowF hT hV hD h6 hFa hKa hno
  · refine G_iload_n dX10_readsRow_87 rfl rfl ?_
    refine Gn_if_eq (tgt := 113) dX10_readsRow_88 (by decide) (by omega) (fun h88 => ?_) (fun h88 => ?_)
    · exact ly_rowF hT hV hD h6 hFa hKa hno
    · omega
theorem ly_rowT {d n : Nat} {t : Nat → Nat} {s : RT} {M : Mem} (hT : TBm n t M) (hV : PV n s) (hD : DSm n t s M) (h6 : s.2.2 < 6) {Ma : Mem} (hFa : FK M Ma) (hKa : TKm n t (tkE n t s.1) Ma) (h3 : tkK n t (tkE n t s.1) = 3) (hl1 : 1 ≤ tkE n t (tkE n t s.1) - tkS n t (tkE n t s.1)) (hl8 : tkE n t (tkE n t s.1) - tkS n t (tkE n t s.1) ≤ 8) (hw : s.2.2 ≠ 0 → tkE n t (tkE n t s.1) - tkS n t (tkE n t s.1) = s.2.1 0) (hall : (∀ x, tkS n t (tkE n t s.1) ≤ x → x < tkE n t (tkE n t s.1) → t x ≤ 51)) {x3 : Option AV} : G l α D cA uX10_readsRow none (d + 5) (fun _ M1 => FPz M M1 ∧ STm n t (pCells n t (tkE n t s.1, s.2)) M1) 113 [some (.inr 50), some (.inl (nI (tkE n t (tkE n t s.1) - tkS n t (tkE n t s.1)))), some (.inl (nI 1)), x3] [] Ma := by
  have hn := hT.2.1
  have hi := hV.1
  have hi1 := (tkE_in (n := n) (t := t) hi).1
  have hE := tkE_in (n := n) (t := t) hi1
  have hm8 := mtk_8 (n := n) (t := t) (i := tkE n t s.1)
  have hPG := hV.2
  have hTa := TB_K hT hFa
  have h14a : Ma 50 14 = -9 := (hFa.2 14 (by decide) (by decide) (by decide)).trans hD.2.1
  have hDa : DR s.2.1 s.2.2 (Ma 52) := by rw [hFa.1 52 (by decide)]; exact hD.2.2
  refine G_aload_n dX10_readsRow_113 rfl rfl ?_
  refine G_getI (v := ((-9))) dX10_readsRow_114 fX10_113 rfl rfl h14a ?_
  refine G_bipush (v := ((-9))) dX10_readsRow_117 (by decide) ?_
  refine G_icmp_ne (tgt := 187) dX10_readsRow_119 (by decide) (fun h119 => ?_) (fun h119 => ?_)
  · exact absurd rfl h119
  · refine G_iload_n dX10_readsRow_122 rfl rfl ?_
    refine Gn_if_eq (tgt := 187) dX10_readsRow_123 (by decide) (by omega) (fun h123 => ?_) (fun h123 => ?_)
    · omega
    · refine G_aload_n dX10_readsRow_126 rfl rfl ?_
      refine G_getR (j := 52) dX10_readsRow_127 fX10_13 rfl rfl ?_
      refine G_iconst (v := (nI 0)) dX10_readsRow_130 (by decide) ?_
      refine G_iload_n dX10_readsRow_131 rfl rfl ?_
      refine G_iast (k := 0) (v := (nI (tkE n t (tkE n t s.1) - tkS n t (tkE n t s.1)))) dX10_readsRow_132 rfl (vp_in_nI (by decide) (by decide)) rfl rfl ?_
      refine G_iconst (v := (nI 0)) dX10_readsRow_133 (by decide) ?_
      refine G_istore_n (L2 := [some (.inr 50), some (.inl (nI (tkE n t (tkE n t s.1) - tkS n t (tkE n t s.1)))), some (.inl (nI 1)), some (.inl (nI 0))]) dX10_readsRow_134 rfl (Nat.le_of_ble_eq_true rfl) rfl ?_
      refine ly_rowW hT hV hD h6 hFa hKa h3 hl1 hl8 hw hall _ 0 _ rfl (Nat.zero_le _) (fun q a => ms_q a) ?_
      rw [ms_o, fb_put_0]
theorem y_readsRow {d n : Nat} {t : Nat → Nat} {s : RT} {M : Mem} (hT : TBm n t M) (hV : PV n s) (hD : DSm n t s M) (h6 : s.2.2 < 6) : Call l α D cA uX10_readsRow (d + 5) [.inr 50] M (fun _ M1 => FPz M M1 ∧ STm n t (pCells n t (tkE n t s.1, s.2)) M1) := by
  refine Call.of kX10_readsRow.1 (Nat.le_of_ble_eq_true rfl) ?_
  have hn := hT.2.1
  have hi := hV.1
  have hi1 := (tkE_in (n := n) (t := t) hi).1
  have hE := tkE_in (n := n) (t := t) hi1
  have hm8 := mtk_8 (n := n) (t := t) (i := tkE n t s.1)
  have hPG := hV.2
  refine G_aload_n dX10_readsRow_0 rfl rfl ?_
  refine G_aload_n dX10_readsRow_1 rfl rfl ?_
  refine G_getR (j := 52) dX10_readsRow_2 fX10_13 rfl rfl ?_
  refine G_iconst (v := (nI 1)) dX10_readsRow_5 (by decide) ?_
  refine G_iald (k := 1) (v := (nI (s.2.2))) dX10_readsRow_6 rfl (vp_in_nI (by decide) (by decide)) rfl hD.2.2.2.1 ?_
  refine G_bipush (v := (nI 6)) dX10_readsRow_7 (by decide) ?_
  refine Gn_icmp_ge (tgt := 16) dX10_readsRow_9 (by decide) (by omega) (by omega) (fun h9 => ?_) (fun h9 => ?_)
  · omega
  · refine G_iconst (v := (nI 1)) dX10_readsRow_12 (by decide) ?_
    refine G_goto (tgt := 17) dX10_readsRow_13 (by decide) ?_
    refine G_callVv (ν := uX10_takes) (As := [.inl (nI 1)]) dX10_readsRow_17 nX10_119 kX10_takes rfl rfl rfl rfl rfl (Nat.le_of_ble_eq_true rfl) (y_takes_t hT hi hD.1 hD.2.1) ?_
    rintro _ Ma ⟨hFa, hKa⟩
    have hTa := TB_K hT hFa
    have h14a : Ma 50 14 = -9 := (hFa.2 14 (by decide) (by decide) (by decide)).trans hD.2.1
    have hDa : DR s.2.1 s.2.2 (Ma 52) := by rw [hFa.1 52 (by decide)]; exact hD.2.2
    refine G_aload_n dX10_readsRow_20 rfl rfl ?_
    refine G_getI (v := (nI (tkE n t (tkE n t s.1)))) dX10_readsRow_21 fX10_92 rfl rfl hKa.2.1 ?_
    refine G_aload_n dX10_readsRow_24 rfl rfl ?_
    refine G_getI (v := (nI (tkS n t (tkE n t s.1)))) dX10_readsRow_25 fX10_95 rfl rfl hKa.1 ?_
    refine G_isub (v := (nI (tkE n t (tkE n t s.1) - tkS n t (tkE n t s.1)))) dX10_readsRow_28 (pk_sub (by omega)) ?_
    refine G_istore_n (L2 := [some (.inr 50), some (.inl (nI (tkE n t (tkE n t s.1) - tkS n t (tkE n t s.1)))), none, none]) dX10_readsRow_29 rfl (Nat.le_of_ble_eq_true rfl) rfl ?_
    refine G_aload_n dX10_readsRow_30 rfl rfl ?_
    refine G_getI (v := (nI (mtk n t (tkE n t s.1)))) dX10_readsRow_31 fX10_106 rfl rfl hKa.2.2 ?_
    refine G_bipush (v := (nI 6)) dX10_readsRow_34 (by decide) ?_
    refine Gn_icmp_ne (tgt := 72) dX10_readsRow_36 (by decide) (by omega) (by omega) (fun h36 => ?_) (fun h36 => ?_)
    · refine G_iconst (v := (nI 0)) dX10_readsRow_72 (by decide) ?_
      refine G_istore_n (L2 := [some (.inr 50), some (.inl (nI (tkE n t (tkE n t s.1) - tkS n t (tkE n t s.1)))), some (.inl (nI 0)), none]) dX10_readsRow_73 rfl (Nat.le_of_ble_eq_true rfl) rfl ?_
      refine G_aload_n dX10_readsRow_74 rfl rfl ?_
      refine G_getI (v := (nI (tkS n t (tkE n t s.1)))) dX10_readsRow_75 fX10_95 rfl rfl hKa.1 ?_
      refine G_istore_n (L2 := [some (.inr 50), some (.inl (nI (tkE n t (tkE n t s.1) - tkS n t (tkE n t s.1)))), some (.inl (nI 0)), some (.inl (nI (tkS n t (tkE n t s.1))))]) dX10_readsRow_78 rfl (Nat.le_of_ble_eq_true rfl) rfl ?_
      have hno : ¬ pcD n t (tkE n t s.1, s.2) = true := fun q => h36 (mtk_3 (isDt_row.mp q).1)
      exact ly_rowZ hT hV hD h6 hFa hKa hno (by omega)
    · refine G_iload_n dX10_readsRow_39 rfl rfl ?_
      refine G_iconst (v := (nI 1)) dX10_readsRow_40 (by decide) ?_
      refine G_bipush (v := (nI 8)) dX10_readsRow_41 (by decide) ?_
      refine G_callSi (ν := uX10_in) (As := [.inl (nI (tkE n t (tkE n t s.1) - tkS n t (tkE n t s.1))), .inl (nI 1), .inl (nI 8)]) dX10_readsRow_43 nX10_85 kX10_in rfl rfl rfl (Nat.le_of_ble_eq_true rfl) (y_inI (lo := 1) (hi := 8)) ?_
      rintro _ M8 ⟨rfl, e9⟩
      subst M8
      refine Gb_if_eq (tgt := 72) dX10_readsRow_46 (by decide) (fun h46 => ?_) (fun h46 => ?_)
      · refine G_iconst (v := (nI 0)) dX10_readsRow_72 (by decide) ?_
        refine G_istore_n (L2 := [some (.inr 50), some (.inl (nI (tkE n t (tkE n t s.1) - tkS n t (tkE n t s.1)))), some (.inl (nI 0)), none]) dX10_readsRow_73 rfl (Nat.le_of_ble_eq_true rfl) rfl ?_
        refine G_aload_n dX10_readsRow_74 rfl rfl ?_
        refine G_getI (v := (nI (tkS n t (tkE n t s.1)))) dX10_readsRow_75 fX10_95 rfl rfl hKa.1 ?_
        refine G_istore_n (L2 := [some (.inr 50), some (.inl (nI (tkE n t (tkE n t s.1) - tkS n t (tkE n t s.1)))), some (.inl (nI 0)), some (.inl (nI (tkS n t (tkE n t s.1))))]) dX10_readsRow_78 rfl (Nat.le_of_ble_eq_true rfl) rfl ?_
        have hno : ¬ pcD n t (tkE n t s.1, s.2) = true := fun q => by
          have b := (isDt_row.mp q).2.1
          refine dec_niff.mp h46 ((inI_nn (by omega) (by decide) (by decide)).mpr ?_)
          by_cases z : s.2.2 = 0
          · simp only [if_pos z] at b; omega
          · simp only [if_neg z] at b; have := hPG.2.2.1; omega
        exact ly_rowZ hT hV hD h6 hFa hKa hno (by omega)
      · refine G_aload_n dX10_readsRow_49 rfl rfl ?_
        refine G_getR (j := 52) dX10_readsRow_50 fX10_13 rfl rfl ?_
        refine G_iconst (v := (nI 1)) dX10_readsRow_53 (by decide) ?_
        refine G_iald (k := 1) (v := (nI (s.2.2))) dX10_readsRow_54 rfl (vp_in_nI (by decide) (by decide)) rfl hDa.2.1 ?_
        refine Gn_if_eq (tgt := 68) dX10_readsRow_55 (by decide) (by omega) (fun h55 => ?_) (fun h55 => ?_)
        · refine G_iconst (v := (nI 1)) dX10_readsRow_68 (by decide) ?_
          refine G_goto (tgt := 73) dX10_readsRow_69 (by decide) ?_
          refine G_istore_n (L2 := [some (.inr 50), some (.inl (nI (tkE n t (tkE n t s.1) - tkS n t (tkE n t s.1)))), some (.inl (nI 1)), none]) dX10_readsRow_73 rfl (Nat.le_of_ble_eq_true rfl) rfl ?_
          refine G_aload_n dX10_readsRow_74 rfl rfl ?_
          refine G_getI (v := (nI (tkS n t (tkE n t s.1)))) dX10_readsRow_75 fX10_95 rfl rfl hKa.1 ?_
          refine G_istore_n (L2 := [some (.inr 50), some (.inl (nI (tkE n t (tkE n t s.1) - tkS n t (tkE n t s.1)))), some (.inl (nI 1)), some (.inl (nI (tkS n t (tkE n t s.1))))]) dX10_readsRow_78 rfl (Nat.le_of_ble_eq_true rfl) rfl ?_
          have h3 : tkK n t (tkE n t s.1) = 3 := mtk_6 h36
          obtain ⟨f1, f2, f3, f4⟩ := tk_dig hi1 h3
          have hl := (inI_nn (by omega) (by decide) (by decide)).mp (dec_iff.mp h46)
          rw [show nI 1 = bI (dec (∀ x, tkS n t (tkE n t s.1) ≤ x → x < tkS n t (tkE n t s.1) → t x ≤ 51)) from bI_dt (fun x a b => by omega)]
          refine ly_rowC hT hV hD h6 hFa hKa h3 (fun x3 => ?_) _ _ rfl (Nat.le_refl _) (by omega)
          by_cases hall : (∀ x, tkS n t (tkE n t s.1) ≤ x → x < tkE n t (tkE n t s.1) → t x ≤ 51)
          · rw [dec_t hall, show bI true = nI 1 from rfl]
            exact ly_rowT hT hV hD h6 hFa hKa h3 hl.1 hl.2 (fun z => absurd h55 z) hall
          · rw [dec_f hall, show bI false = nI 0 from rfl]
            exact ly_rowF hT hV hD h6 hFa hKa (fun q => hall (isDt_row.mp q).2.2)
        · refine G_iload_n dX10_readsRow_58 rfl rfl ?_
          refine G_aload_n dX10_readsRow_59 rfl rfl ?_
          refine G_getR (j := 52) dX10_readsRow_60 fX10_13 rfl rfl ?_
          refine G_iconst (v := (nI 0)) dX10_readsRow_63 (by decide) ?_
          refine G_iald (k := 0) (v := (nI (s.2.1 0))) dX10_readsRow_64 rfl (vp_in_nI (by decide) (by decide)) rfl (by rw [hDa.1, if_neg h55]) ?_
          have hg08 := hPG.2.2.1
          refine Gn_icmp_ne (tgt := 72) dX10_readsRow_65 (by decide) (by omega) (by omega) (fun h65 => ?_) (fun h65 => ?_)
          · refine G_iconst (v := (nI 0)) dX10_readsRow_72 (by decide) ?_
            refine G_istore_n (L2 := [some (.inr 50), some (.inl (nI (tkE n t (tkE n t s.1) - tkS n t (tkE n t s.1)))), some (.inl (nI 0)), none]) dX10_readsRow_73 rfl (Nat.le_of_ble_eq_true rfl) rfl ?_
            refine G_aload_n dX10_readsRow_74 rfl rfl ?_
            refine G_getI (v := (nI (tkS n t (tkE n t s.1)))) dX10_readsRow_75 fX10_95 rfl rfl hKa.1 ?_
            refine G_istore_n (L2 := [some (.inr 50), some (.inl (nI (tkE n t (tkE n t s.1) - tkS n t (tkE n t s.1)))), some (.inl (nI 0)), some (.inl (nI (tkS n t (tkE n t s.1))))]) dX10_readsRow_78 rfl (Nat.le_of_ble_eq_true rfl) rfl ?_
            have hno : ¬ pcD n t (tkE n t s.1, s.2) = true := fun q => by
              have b := (isDt_row.mp q).2.1
              simp only [if_neg h55] at b
              omega
            exact ly_rowZ hT hV hD h6 hFa hKa hno (by omega)
          · refine G_iconst (v := (nI 1)) dX10_readsRow_68 (by decide) ?_
            refine G_goto (tgt := 73) dX10_readsRow_69 (by decide) ?_
            refine G_istore_n (L2 := [some (.inr 50), some (.inl (nI (tkE n t (tkE n t s.1) - tkS n t (tkE n t s.1)))), some (.inl (nI 1)), none]) dX10_readsRow_73 rfl (Nat.le_of_ble_eq_true rfl) rfl ?_
            refine G_aload_n dX10_readsRow_74 rfl rfl ?_
            refine G_getI (v := (nI (tkS n t (tkE n t s.1)))) dX10_readsRow_75 fX10_95 rfl rfl hKa.1 ?_
            refine G_istore_n (L2 := [some (.inr 50), some (.inl (nI (tkE n t (tkE n t s.1) - tkS n t (tkE n t s.1)))), some (.inl (nI 1)), some (.inl (nI (tkS n t (tkE n t s.1))))]) dX10_readsRow_78 rfl (Nat.le_of_ble_eq_true rfl) rfl ?_
            have h3 : tkK n t (tkE n t s.1) = 3 := mtk_6 h36
            obtain ⟨f1, f2, f3, f4⟩ := tk_dig hi1 h3
            have hl := (inI_nn (by omega) (by decide) (by decide)).mp (dec_iff.mp h46)
            rw [show nI 1 = bI (dec (∀ x, tkS n t (tkE n t s.1) ≤ x → x < tkS n t (tkE n t s.1) → t x ≤ 51)) from bI_dt (fun x a b => by omega)]
            refine ly_rowC hT hV hD h6 hFa hKa h3 (fun x3 => ?_) _ _ rfl (Nat.le_refl _) (by omega)
            by_cases hall : (∀ x, tkS n t (tkE n t s.1) ≤ x → x < tkE n t (tkE n t s.1) → t x ≤ 51)
            · rw [dec_t hall, show bI true = nI 1 from rfl]
              exact ly_rowT hT hV hD h6 hFa hKa h3 hl.1 hl.2 (fun _ => h65) hall
            · rw [dec_f hall, show bI false = nI 0 from rfl]
              exact ly_rowF hT hV hD h6 hFa hKa (fun q => hall (isDt_row.mp q).2.2)
theorem y_readsRow_no {d n : Nat} {t : Nat → Nat} {s : RT} {M : Mem} (hT : TBm n t M) (hV : PV n s) (hD : DSm n t s M) (h6 : ¬ s.2.2 < 6) (hk : tkK n t s.1 = 2) : Call l α D cA uX10_readsRow (d + 5) [.inr 50] M (fun _ M1 => FPz M M1 ∧ STm n t (false, s) M1) := by
  refine Call.of kX10_readsRow.1 (Nat.le_of_ble_eq_true rfl) ?_
  have hn := hT.2.1
  have hi := hV.1
  have hE := tkE_in (n := n) (t := t) hi
  have hm8 := mtk_8 (n := n) (t := t) (i := s.1)
  have hr6 := hV.2.1
  refine G_aload_n dX10_readsRow_0 rfl rfl ?_
  refine G_aload_n dX10_readsRow_1 rfl rfl ?_
  refine G_getR (j := 52) dX10_readsRow_2 fX10_13 rfl rfl ?_
  refine G_iconst (v := (nI 1)) dX10_readsRow_5 (by decide) ?_
  refine G_iald (k := 1) (v := (nI (s.2.2))) dX10_readsRow_6 rfl (vp_in_nI (by decide) (by decide)) rfl hD.2.2.2.1 ?_
  refine G_bipush (v := (nI 6)) dX10_readsRow_7 (by decide) ?_
  refine Gn_icmp_ge (tgt := 16) dX10_readsRow_9 (by decide) (by omega) (by omega) (fun h9 => ?_) (fun h9 => ?_)
  · refine G_iconst (v := (nI 0)) dX10_readsRow_16 (by decide) ?_
    refine G_callVv (ν := uX10_takes) (As := [.inl (nI 0)]) dX10_readsRow_17 nX10_119 kX10_takes rfl rfl rfl rfl rfl (Nat.le_of_ble_eq_true rfl) (y_takes_f hD.1 hD.2.1) ?_
    rintro _ M2 rfl
    have hK2 : TKm n t s.1 (ms M 50 14 (nI (tkS n t s.1))) := TK_14 hD.1
    refine G_aload_n dX10_readsRow_20 rfl rfl ?_
    refine G_getI (v := (nI (tkE n t s.1))) dX10_readsRow_21 fX10_92 rfl rfl hK2.2.1 ?_
    refine G_aload_n dX10_readsRow_24 rfl rfl ?_
    refine G_getI (v := (nI (tkS n t s.1))) dX10_readsRow_25 fX10_95 rfl rfl hK2.1 ?_
    refine G_isub (v := (nI ((tkE n t s.1) - (tkS n t s.1)))) dX10_readsRow_28 (pk_sub (by omega)) ?_
    refine G_istore_n (L2 := [some (.inr 50), some (.inl (nI ((tkE n t s.1) - (tkS n t s.1)))), none, none]) dX10_readsRow_29 rfl (Nat.le_of_ble_eq_true rfl) rfl ?_
    refine G_aload_n dX10_readsRow_30 rfl rfl ?_
    refine G_getI (v := (nI (mtk n t s.1))) dX10_readsRow_31 fX10_106 rfl rfl hK2.2.2 ?_
    refine G_bipush (v := (nI 6)) dX10_readsRow_34 (by decide) ?_
    refine Gn_icmp_ne (tgt := 72) dX10_readsRow_36 (by decide) (by omega) (by omega) (fun h36 => ?_) (fun h36 => ?_)
    · refine G_iconst (v := (nI 0)) dX10_readsRow_72 (by decide) ?_
      refine G_istore_n (L2 := [some (.inr 50), some (.inl (nI ((tkE n t s.1) - (tkS n t s.1)))), some (.inl (nI 0)), none]) dX10_readsRow_73 rfl (Nat.le_of_ble_eq_true rfl) rfl ?_
      refine G_aload_n dX10_readsRow_74 rfl rfl ?_
      refine G_getI (v := (nI (tkS n t s.1))) dX10_readsRow_75 fX10_95 rfl rfl hK2.1 ?_
      refine G_istore_n (L2 := [some (.inr 50), some (.inl (nI ((tkE n t s.1) - (tkS n t s.1)))), some (.inl (nI 0)), some (.inl (nI (tkS n t s.1)))]) dX10_readsRow_78 rfl (Nat.le_of_ble_eq_true rfl) rfl ?_
      refine G_iload_n dX10_readsRow_79 rfl rfl ?_
      refine G_aload_n dX10_readsRow_80 rfl rfl ?_
      refine G_getI (v := (nI (tkE n t s.1))) dX10_readsRow_81 fX10_92 rfl rfl hK2.2.1 ?_
      refine Gn_icmp_ge (tgt := 113) dX10_readsRow_84 (by decide) (by omega) (by omega) (fun h84 => ?_) (fun h84 => ?_)
      · refine G_aload_n dX10_readsRow_113 rfl rfl ?_
        refine G_getI (v := (nI (tkS n t s.1))) dX10_readsRow_114 fX10_113 rfl rfl (by rw [ms_o]; exact upd_k) ?_
        refine G_bipush (v := ((-9))) dX10_readsRow_117 (by decide) ?_
        refine G_icmp_ne (tgt := 187) dX10_readsRow_119 (by decide) (fun h119 => ?_) (fun h119 => ?_)
        · refine G_aload_n dX10_readsRow_187 rfl rfl ?_
          refine G_iload_n dX10_readsRow_188 rfl rfl ?_
          refine G_callVv (ν := uX10_takes) (As := [.inl (nI 0)]) dX10_readsRow_189 nX10_119 kX10_takes rfl rfl rfl rfl rfl (Nat.le_of_ble_eq_true rfl) (y_takes_e (p := tkS n t s.1) (by rw [ms_o]; exact upd_k) (tkS_lt hi hn)) ?_
          rintro _ M8 e9
          subst M8
          refine G_vret dX10_readsRow_192 rfl ?_
          exact ⟨FPz_14 FPz_r, STm_f hK2 (by rw [ms_o]; exact upd_k)⟩
        · exact absurd h119 (no9 (tkS_lt hi hn))
      · refine G_iload_n dX10_readsRow_87 rfl rfl ?_
        refine Gn_if_eq (tgt := 113) dX10_readsRow_88 (by decide) (by omega) (fun h88 => ?_) (fun h88 => ?_)
        · refine G_aload_n dX10_readsRow_113 rfl rfl ?_
          refine G_getI (v := (nI (tkS n t s.1))) dX10_readsRow_114 fX10_113 rfl rfl (by rw [ms_o]; exact upd_k) ?_
          refine G_bipush (v := ((-9))) dX10_readsRow_117 (by decide) ?_
          refine G_icmp_ne (tgt := 187) dX10_readsRow_119 (by decide) (fun h119 => ?_) (fun h119 => ?_)
          · refine G_aload_n dX10_readsRow_187 rfl rfl ?_
            refine G_iload_n dX10_readsRow_188 rfl rfl ?_
            refine G_callVv (ν := uX10_takes) (As := [.inl (nI 0)]) dX10_readsRow_189 nX10_119 kX10_takes rfl rfl rfl rfl rfl (Nat.le_of_ble_eq_true rfl) (y_takes_e (p := tkS n t s.1) (by rw [ms_o]; exact upd_k) (tkS_lt hi hn)) ?_
            rintro _ M8 e9
            subst M8
            refine G_vret dX10_readsRow_192 rfl ?_
            exact ⟨FPz_14 FPz_r, STm_f hK2 (by rw [ms_o]; exact upd_k)⟩
          · exact absurd h119 (no9 (tkS_lt hi hn))
        · omega
    · exact absurd (mtk_6 h36) (by omega)
  · omega
end P42
