/-! The reference: paints -/
section P36
variable {l : Launch} {α : Nat → Nat} {D : va_G} {cA : Nat → ClassId}
theorem inI_nn {lo hi k : Nat} (hk : k < 2 ^ 31) (hh : hi < 2 ^ 31) (hl : lo < 2 ^ 31) : inI lo hi (nI k) ↔ lo ≤ k ∧ k ≤ hi := by
  unfold inI
  rw [nI_leI hl hk, nI_leI hk hh]
theorem rct_pl {w x y x2 y2 i : Nat} (h1 : 1 ≤ w) (h8 : w ≤ 8) : rct x y x2 y2 (pl w i) = true ↔ (x ≤ i % w ∧ i % w ≤ x2) ∧ y ≤ i / w ∧ i / w ≤ y2 := by
  obtain ⟨a, b, -⟩ := pl_d (c := i) h1 h8
  unfold rct
  rw [a, b, decide_eq_true_eq]
/-- the cells painted up to the i-th -/
def hP (g : Nat → Nat) (x y x2 y2 c i : Nat) (f : Nat → Int32) : Prop := (∀ j, j < 12 → f j = nI (g j)) ∧ ∀ j, j < g 0 * g 1 → f (12 + j) = nI (if j < i ∧ rct x y x2 y2 (pl (g 0) j) = true then c else g (12 + pl (g 0) j))
theorem hP_0 {g : Nat → Nat} {x y x2 y2 c : Nat} {f : Nat → Int32} (h : hS g f) : hP g x y x2 y2 c 0 f := ⟨h.1, fun j hj => by rw [if_neg (fun q => Nat.not_lt_zero _ q.1)]; exact h.2 j hj⟩
theorem hP_n {g : Nat → Nat} {x y x2 y2 c i : Nat} {f : Nat → Int32} (h : hP g x y x2 y2 c i f) (hr : ¬ rct x y x2 y2 (pl (g 0) i) = true) : hP g x y x2 y2 c (i + 1) f := ⟨h.1, fun j hj => by
  rw [h.2 j hj]
  by_cases e : j = i
  · subst e
    rw [if_neg (fun q => hr q.2), if_neg (fun q => hr q.2)]
  · by_cases z : j < i ∧ rct x y x2 y2 (pl (g 0) j) = true
    · rw [if_pos z, if_pos ⟨by omega, z.2⟩]
    · rw [if_neg z, if_neg (fun q => z ⟨by omega, q.2⟩)]⟩
theorem hP_s {g : Nat → Nat} {x y x2 y2 c i : Nat} {f : Nat → Int32} (h : hP g x y x2 y2 c i f) (hr : rct x y x2 y2 (pl (g 0) i) = true) : hP g x y x2 y2 c (i + 1) (upd f (12 + i) (nI c)) := ⟨fun j hj => by rw [upd_n (by omega)]; exact h.1 j hj, fun j hj => by
  by_cases e : j = i
  · subst e
    rw [upd_k, if_pos ⟨by omega, hr⟩]
  · rw [upd_n (by omega), h.2 j hj]
    by_cases z : j < i ∧ rct x y x2 y2 (pl (g 0) j) = true
    · rw [if_pos z, if_pos ⟨by omega, z.2⟩]
    · rw [if_neg z, if_neg (fun q => z ⟨by omega, q.2⟩)]⟩
theorem hP_end {g : Nat → Nat} {x y x2 y2 c : Nat} {f : Nat → Int32} (h : hP g x y x2 y2 c (g 0 * g 1) f) : hS (pntG g x y x2 y2 c) f := by
  have e : ∀ j, j < 12 → pntG g x y x2 y2 c j = g j := fun j hj => if_neg (by omega)
  refine ⟨fun j hj => by rw [h.1 j hj, e j hj], fun j hj => ?_⟩
  rw [e 0 (by decide), e 1 (by decide)] at hj
  rw [h.2 j hj, e 0 (by decide)]
  unfold pntG
  rw [Nat.add_sub_cancel_left]
  by_cases z : rct x y x2 y2 (pl (g 0) j) = true
  · rw [if_pos ⟨hj, z⟩, if_pos ⟨by omega, z⟩]
  · rw [if_neg (fun q => z q.2), if_neg (fun q => z q.2)]
theorem y_cells2 {d W H : Nat} {M : Mem} (h0 : M 51 0 = nI W) (h1 : M 51 1 = nI H) : Call l α D cA uX10_cells d [.inr 50] M (fun r M1 => r = .inl (nI (W * H)) ∧ M1 = M) := by
  refine Call.of kX10_cells.1 (Nat.le_of_ble_eq_true rfl) ?_
  refine G_aload_n dX10_cells_0 rfl rfl ?_
  refine G_getR (j := 51) dX10_cells_1 fX10_7 rfl rfl ?_
  refine G_iconst (v := (nI 0)) dX10_cells_4 (by decide) ?_
  refine G_iald (k := 0) (v := (nI W)) dX10_cells_5 rfl (vp_in_nI (by decide) (by decide)) rfl h0 ?_
  refine G_aload_n dX10_cells_6 rfl rfl ?_
  refine G_getR (j := 51) dX10_cells_7 fX10_7 rfl rfl ?_
  refine G_iconst (v := (nI 1)) dX10_cells_10 (by decide) ?_
  refine G_iald (k := 1) (v := (nI H)) dX10_cells_11 rfl (vp_in_nI (by decide) (by decide)) rfl h1 ?_
  refine G_imul (v := (nI (W * H))) dX10_cells_12 (pk_mul _ _) ?_
  refine G_iret dX10_cells_13 rfl rfl ?_
  exact ⟨rfl, rfl⟩
theorem ly_pa2 {d x y x2 y2 c : Nat} {s : AS} {M M0 : Mem} (hY0 : YR s M0) (hq0 : ∀ q, q < 50 → M0 q = M q) (hx : x < 8) (hy : y < 8) (hx2 : x2 < s.2.1 0) (hy2 : y2 < s.2.1 1) (hc : c ≤ 3) {Ma : Mem} (h0 : pntC s.2.1 x y x2 y2 c ≠ 0) (hFa : FNt M0 Ma) (hPa : PAm (min (s.2.2.1.1 + 1) 6) (hCons s.2.1 s.2.2.1.2) Ma) : ∀ (k i : Nat) (M1 : Mem), s.2.1 0 * s.2.1 1 - i = k → i ≤ s.2.1 0 * s.2.1 1 → (∀ q, q ≠ 51 → M1 q = Ma q) → hP s.2.1 x y x2 y2 c i (M1 51) → G l α D cA uX10_paints none (d + 2) (PY M (if pntC s.2.1 x y x2 y2 c = 0 then (-2, s) else (nI (pntC s.2.1 x y x2 y2 c), push s (pntG s.2.1 x y x2 y2 c)))) 143 [some (.inr 50), some (.inl (nI x)), some (.inl (nI y)), some (.inl (nI x2)), some (.inl (nI y2)), some (.inl (nI c)), some (.inl (nI (pntC s.2.1 x y x2 y2 c))), some (.inl (nI i))] [] M1 := by
  obtain ⟨hok, hs, hPA, hKE, hFA, hTB⟩ := id hY0
  have hk := hok.1
  have hN := cel_48 hk
  have h8 := hk.1.2
  have h6 := hk.2.1.2
  intro k
  induction k using Nat.strongRecOn with
  | _ k ih => ?_
  intro i M1 hkk hi hF hPP
  refine G_iload dX10_paints_143 rfl ?_
  refine G_aload_n dX10_paints_145 rfl rfl ?_
  refine G_callVi (ν := uX10_cells) (As := []) dX10_paints_146 nX10_151 kX10_cells rfl rfl rfl rfl rfl (Nat.le_of_ble_eq_true rfl) (y_cells2 (hPP.1 0 (by decide)) (hPP.1 1 (by decide))) ?_
  rintro _ M8 ⟨rfl, e9⟩
  subst M8
  refine Gn_icmp_ge (tgt := 205) dX10_paints_149 (by decide) (by omega) (by omega) (fun h149 => ?_) (fun h149 => ?_)
  · refine G_iload dX10_paints_205 rfl ?_
    refine G_iret dX10_paints_207 rfl rfl ?_
    have e : i = s.2.1 0 * s.2.1 1 := by omega
    subst e
    rw [if_neg h0]
    exact PY_r (YR_push hY0 (gok_p hk hx2 hy2 hc) hFa hPa hF (hP_end hPP)) (fun q hq => by rw [hF q (by omega), hFa.1 q (by omega) (by omega)]; exact hq0 q hq)
  · have hdm := dm_lt hk (show i < s.2.1 0 * s.2.1 1 by omega)
    have hrp := rct_pl (x := x) (y := y) (x2 := x2) (y2 := y2) (i := i) hk.1.1 hk.1.2
    refine G_iload dX10_paints_152 rfl ?_
    refine G_aload_n dX10_paints_154 rfl rfl ?_
    refine G_getR (j := 51) dX10_paints_155 fX10_7 rfl rfl ?_
    refine G_iconst (v := (nI 0)) dX10_paints_158 (by decide) ?_
    refine G_iald (k := 0) (v := (nI (s.2.1 0))) dX10_paints_159 rfl (vp_in_nI (by decide) (by decide)) rfl (hPP.1 0 (by decide)) ?_
    refine G_irem (v := (nI (i % (s.2.1 0)))) dX10_paints_160 (nI_ne0 (by omega) (by omega)) (pk_rem (by omega) (by omega) (by omega)) ?_
    refine G_iload_n dX10_paints_161 rfl rfl ?_
    refine G_iload_n dX10_paints_162 rfl rfl ?_
    refine G_callSi (ν := uX10_in) (As := [.inl (nI (i % (s.2.1 0))), .inl (nI x), .inl (nI x2)]) dX10_paints_163 nX10_85 kX10_in rfl rfl rfl (Nat.le_of_ble_eq_true rfl) (y_inI (lo := x) (hi := x2)) ?_
    rintro _ M8 ⟨rfl, e9⟩
    subst M8
    refine Gb_if_eq (tgt := 199) dX10_paints_166 (by decide) (fun h166 => ?_) (fun h166 => ?_)
    · refine G_iinc (v := (nI (i + 1))) (L2 := [some (.inr 50), some (.inl (nI x)), some (.inl (nI y)), some (.inl (nI x2)), some (.inl (nI y2)), some (.inl (nI c)), some (.inl (nI (pntC s.2.1 x y x2 y2 c))), some (.inl (nI (i + 1)))]) dX10_paints_199 rfl (nI_1 _) rfl ?_
      refine G_goto (tgt := 143) dX10_paints_202 (by decide) ?_
      exact ih (s.2.1 0 * s.2.1 1 - (i + 1)) (by omega) (i + 1) M1 rfl (by omega) hF (hP_n hPP (fun q => dec_niff.mp h166 ((inI_nn (by omega) (by omega) (by omega)).mpr (hrp.mp q).1)))
    · refine G_iload dX10_paints_169 rfl ?_
      refine G_aload_n dX10_paints_171 rfl rfl ?_
      refine G_getR (j := 51) dX10_paints_172 fX10_7 rfl rfl ?_
      refine G_iconst (v := (nI 0)) dX10_paints_175 (by decide) ?_
      refine G_iald (k := 0) (v := (nI (s.2.1 0))) dX10_paints_176 rfl (vp_in_nI (by decide) (by decide)) rfl (hPP.1 0 (by decide)) ?_
      refine G_idiv (v := (nI (i / (s.2.1 0)))) dX10_paints_177 (nI_ne0 (by omega) (by omega)) (pk_div (by omega) (by omega) (by omega)) ?_
      refine G_iload_n dX10_paints_178 rfl rfl ?_
      refine G_iload dX10_paints_179 rfl ?_
      refine G_callSi (ν := uX10_in) (As := [.inl (nI (i / (s.2.1 0))), .inl (nI y), .inl (nI y2)]) dX10_paints_181 nX10_85 kX10_in rfl rfl rfl (Nat.le_of_ble_eq_true rfl) (y_inI (lo := y) (hi := y2)) ?_
      rintro _ M8 ⟨rfl, e9⟩
      subst M8
      refine Gb_if_eq (tgt := 199) dX10_paints_184 (by decide) (fun h184 => ?_) (fun h184 => ?_)
      · refine G_iinc (v := (nI (i + 1))) (L2 := [some (.inr 50), some (.inl (nI x)), some (.inl (nI y)), some (.inl (nI x2)), some (.inl (nI y2)), some (.inl (nI c)), some (.inl (nI (pntC s.2.1 x y x2 y2 c))), some (.inl (nI (i + 1)))]) dX10_paints_199 rfl (nI_1 _) rfl ?_
        refine G_goto (tgt := 143) dX10_paints_202 (by decide) ?_
        exact ih (s.2.1 0 * s.2.1 1 - (i + 1)) (by omega) (i + 1) M1 rfl (by omega) hF (hP_n hPP (fun q => dec_niff.mp h184 ((inI_nn (by omega) (by omega) (by omega)).mpr (hrp.mp q).2)))
      · refine G_aload_n dX10_paints_187 rfl rfl ?_
        refine G_getR (j := 51) dX10_paints_188 fX10_7 rfl rfl ?_
        refine G_bipush (v := (nI 12)) dX10_paints_191 (by decide) ?_
        refine G_iload dX10_paints_193 rfl ?_
        refine G_iadd (v := (nI (12 + i))) dX10_paints_195 (nI_add _ _) ?_
        refine G_iload dX10_paints_196 rfl ?_
        refine G_iast (k := 12 + i) (v := (nI c)) dX10_paints_198 rfl (vp_in_nI (by omega) (by omega)) (nI_clamp (by omega)) rfl ?_
        refine G_iinc (v := (nI (i + 1))) (L2 := [some (.inr 50), some (.inl (nI x)), some (.inl (nI y)), some (.inl (nI x2)), some (.inl (nI y2)), some (.inl (nI c)), some (.inl (nI (pntC s.2.1 x y x2 y2 c))), some (.inl (nI (i + 1)))]) dX10_paints_199 rfl (nI_1 _) rfl ?_
        refine G_goto (tgt := 143) dX10_paints_202 (by decide) ?_
        refine ih (s.2.1 0 * s.2.1 1 - (i + 1)) (by omega) (i + 1) _ rfl (by omega) (fun q a => by rw [ms_q a]; exact hF q a) ?_
        rw [ms_o]
        exact hP_s hPP (hrp.mpr ⟨(inI_nn (by omega) (by omega) (by omega)).mp (dec_iff.mp h166), (inI_nn (by omega) (by omega) (by omega)).mp (dec_iff.mp h184)⟩)
theorem ly_pa1 {d x y x2 y2 c : Nat} {s : AS} {M M0 : Mem} (hY0 : YR s M0) (hq0 : ∀ q, q < 50 → M0 q = M q) (hx : x < 8) (hy : y < 8) (hx2 : x2 < s.2.1 0) (hy2 : y2 < s.2.1 1) (hc : c ≤ 3) : ∀ (k i : Nat), s.2.1 0 * s.2.1 1 - i = k → i ≤ s.2.1 0 * s.2.1 1 → G l α D cA uX10_paints none (d + 2) (PY M (if pntC s.2.1 x y x2 y2 c = 0 then (-2, s) else (nI (pntC s.2.1 x y x2 y2 c), push s (pntG s.2.1 x y x2 y2 c)))) 53 [some (.inr 50), some (.inl (nI x)), some (.inl (nI y)), some (.inl (nI x2)), some (.inl (nI y2)), some (.inl (nI c)), some (.inl (nI (fb_ct (fun i => rct x y x2 y2 (pl (s.2.1 0) i) && decide (s.2.1 (12 + pl (s.2.1 0) i) ≠ c)) i))), some (.inl (nI i))] [] M0 := by
  obtain ⟨hok, hs, hPA, hKE, hFA, hTB⟩ := id hY0
  have hk := hok.1
  have hN := cel_48 hk
  have h8 := hk.1.2
  have h6 := hk.2.1.2
  have hcp : fb_ct (fun i => rct x y x2 y2 (pl (s.2.1 0) i) && decide (s.2.1 (12 + pl (s.2.1 0) i) ≠ c)) (s.2.1 0 * s.2.1 1) = pntC s.2.1 x y x2 y2 c := ct_pl (P := fun p => rct x y x2 y2 p && decide (s.2.1 (12 + p) ≠ c)) hk (fun p hp h => by
    rw [Bool.and_eq_true] at h
    have := of_decide_eq_true h.1
    omega)
  intro k
  induction k using Nat.strongRecOn with
  | _ k ih => ?_
  intro i hkk hi
  have hct := fb_ct_le (fun i => rct x y x2 y2 (pl (s.2.1 0) i) && decide (s.2.1 (12 + pl (s.2.1 0) i) ≠ c)) i
  refine G_iload dX10_paints_53 rfl ?_
  refine G_aload_n dX10_paints_55 rfl rfl ?_
  refine G_callVi (ν := uX10_cells) (As := []) dX10_paints_56 nX10_151 kX10_cells rfl rfl rfl rfl rfl (Nat.le_of_ble_eq_true rfl) (y_cells hs hk) ?_
  rintro _ M8 ⟨rfl, e9⟩
  subst M8
  refine Gn_icmp_ge (tgt := 128) dX10_paints_59 (by decide) (by omega) (by omega) (fun h59 => ?_) (fun h59 => ?_)
  · have e : i = s.2.1 0 * s.2.1 1 := by omega
    subst e
    rw [hcp] at hct ⊢
    refine G_iload dX10_paints_128 rfl ?_
    refine Gn_if_ne (tgt := 136) dX10_paints_130 (by decide) (by omega) (fun h130 => ?_) (fun h130 => ?_)
    · refine G_aload_n dX10_paints_136 rfl rfl ?_
      refine G_callVv (ν := uX10_notes) (As := []) dX10_paints_137 nX10_141 kX10_notes rfl rfl rfl rfl rfl (Nat.le_of_ble_eq_true rfl) (y_notes hs hk hok.2.1 hPA) ?_
      rintro _ Ma ⟨hFa, hPa⟩
      refine G_iconst (v := (nI 0)) dX10_paints_140 (by decide) ?_
      refine G_istore (L2 := [some (.inr 50), some (.inl (nI x)), some (.inl (nI y)), some (.inl (nI x2)), some (.inl (nI y2)), some (.inl (nI c)), some (.inl (nI (pntC s.2.1 x y x2 y2 c))), some (.inl (nI 0))]) dX10_paints_141 (Nat.le_of_ble_eq_true rfl) rfl ?_
      exact ly_pa2 hY0 hq0 hx hy hx2 hy2 hc h130 hFa hPa _ 0 Ma rfl (Nat.zero_le _) (fun _ _ => rfl) (hP_0 (by rw [hFa.1 51 (by decide) (by decide)]; exact hs))
    · refine G_bipush (v := ((-2))) dX10_paints_133 (by decide) ?_
      refine G_iret dX10_paints_135 rfl rfl ?_
      rw [if_pos h130]
      exact PY_r hY0 hq0
  · have hdm := dm_lt hk (show i < s.2.1 0 * s.2.1 1 by omega)
    have hrp := rct_pl (x := x) (y := y) (x2 := x2) (y2 := y2) (i := i) hk.1.1 hk.1.2
    have hb9 := (hk.2.2.2.2.2 _ (pl_g hk (show i < s.2.1 0 * s.2.1 1 by omega))).1
    refine G_iload dX10_paints_62 rfl ?_
    refine G_iload dX10_paints_64 rfl ?_
    refine G_aload_n dX10_paints_66 rfl rfl ?_
    refine G_getR (j := 51) dX10_paints_67 fX10_7 rfl rfl ?_
    refine G_iconst (v := (nI 0)) dX10_paints_70 (by decide) ?_
    refine G_iald (k := 0) (v := (nI (s.2.1 0))) dX10_paints_71 rfl (vp_in_nI (by decide) (by decide)) rfl (hs.1 0 (by decide)) ?_
    refine G_irem (v := (nI (i % (s.2.1 0)))) dX10_paints_72 (nI_ne0 (by omega) (by omega)) (pk_rem (by omega) (by omega) (by omega)) ?_
    refine G_iload_n dX10_paints_73 rfl rfl ?_
    refine G_iload_n dX10_paints_74 rfl rfl ?_
    refine G_callSi (ν := uX10_in) (As := [.inl (nI (i % (s.2.1 0))), .inl (nI x), .inl (nI x2)]) dX10_paints_75 nX10_85 kX10_in rfl rfl rfl (Nat.le_of_ble_eq_true rfl) (y_inI (lo := x) (hi := x2)) ?_
    rintro _ M8 ⟨rfl, e9⟩
    subst M8
    refine Gb_if_eq (tgt := 118) dX10_paints_78 (by decide) (fun h78 => ?_) (fun h78 => ?_)
    · refine G_iconst (v := (nI 0)) dX10_paints_118 (by decide) ?_
      refine G_iadd (v := (nI (fb_ct (fun i => rct x y x2 y2 (pl (s.2.1 0) i) && decide (s.2.1 (12 + pl (s.2.1 0) i) ≠ c)) (i + 1)))) dX10_paints_119 (by rw [ct_s0 (P := (fun i => rct x y x2 y2 (pl (s.2.1 0) i) && decide (s.2.1 (12 + pl (s.2.1 0) i) ≠ c))) (by show (rct x y x2 y2 (pl (s.2.1 0) i) && decide (s.2.1 (12 + pl (s.2.1 0) i) ≠ c)) = false; rw [Bool.eq_false_iff.mpr (fun q => dec_niff.mp h78 ((inI_nn (by omega) (by omega) (by omega)).mpr (hrp.mp q).1))]; rfl)]; exact nI_add _ _) ?_
      refine G_istore (L2 := [some (.inr 50), some (.inl (nI x)), some (.inl (nI y)), some (.inl (nI x2)), some (.inl (nI y2)), some (.inl (nI c)), some (.inl (nI (fb_ct (fun i => rct x y x2 y2 (pl (s.2.1 0) i) && decide (s.2.1 (12 + pl (s.2.1 0) i) ≠ c)) (i + 1)))), some (.inl (nI i))]) dX10_paints_120 (Nat.le_of_ble_eq_true rfl) rfl ?_
      refine G_iinc (v := (nI (i + 1))) (L2 := [some (.inr 50), some (.inl (nI x)), some (.inl (nI y)), some (.inl (nI x2)), some (.inl (nI y2)), some (.inl (nI c)), some (.inl (nI (fb_ct (fun i => rct x y x2 y2 (pl (s.2.1 0) i) && decide (s.2.1 (12 + pl (s.2.1 0) i) ≠ c)) (i + 1)))), some (.inl (nI (i + 1)))]) dX10_paints_122 rfl (nI_1 _) rfl ?_
      refine G_goto (tgt := 53) dX10_paints_125 (by decide) ?_
      exact ih (s.2.1 0 * s.2.1 1 - (i + 1)) (by omega) (i + 1) rfl (by omega)
    · refine G_iload dX10_paints_81 rfl ?_
      refine G_aload_n dX10_paints_83 rfl rfl ?_
      refine G_getR (j := 51) dX10_paints_84 fX10_7 rfl rfl ?_
      refine G_iconst (v := (nI 0)) dX10_paints_87 (by decide) ?_
      refine G_iald (k := 0) (v := (nI (s.2.1 0))) dX10_paints_88 rfl (vp_in_nI (by decide) (by decide)) rfl (hs.1 0 (by decide)) ?_
      refine G_idiv (v := (nI (i / (s.2.1 0)))) dX10_paints_89 (nI_ne0 (by omega) (by omega)) (pk_div (by omega) (by omega) (by omega)) ?_
      refine G_iload_n dX10_paints_90 rfl rfl ?_
      refine G_iload dX10_paints_91 rfl ?_
      refine G_callSi (ν := uX10_in) (As := [.inl (nI (i / (s.2.1 0))), .inl (nI y), .inl (nI y2)]) dX10_paints_93 nX10_85 kX10_in rfl rfl rfl (Nat.le_of_ble_eq_true rfl) (y_inI (lo := y) (hi := y2)) ?_
      rintro _ M8 ⟨rfl, e9⟩
      subst M8
      refine Gb_if_eq (tgt := 118) dX10_paints_96 (by decide) (fun h96 => ?_) (fun h96 => ?_)
      · refine G_iconst (v := (nI 0)) dX10_paints_118 (by decide) ?_
        refine G_iadd (v := (nI (fb_ct (fun i => rct x y x2 y2 (pl (s.2.1 0) i) && decide (s.2.1 (12 + pl (s.2.1 0) i) ≠ c)) (i + 1)))) dX10_paints_119 (by rw [ct_s0 (P := (fun i => rct x y x2 y2 (pl (s.2.1 0) i) && decide (s.2.1 (12 + pl (s.2.1 0) i) ≠ c))) (by show (rct x y x2 y2 (pl (s.2.1 0) i) && decide (s.2.1 (12 + pl (s.2.1 0) i) ≠ c)) = false; rw [Bool.eq_false_iff.mpr (fun q => dec_niff.mp h96 ((inI_nn (by omega) (by omega) (by omega)).mpr (hrp.mp q).2))]; rfl)]; exact nI_add _ _) ?_
        refine G_istore (L2 := [some (.inr 50), some (.inl (nI x)), some (.inl (nI y)), some (.inl (nI x2)), some (.inl (nI y2)), some (.inl (nI c)), some (.inl (nI (fb_ct (fun i => rct x y x2 y2 (pl (s.2.1 0) i) && decide (s.2.1 (12 + pl (s.2.1 0) i) ≠ c)) (i + 1)))), some (.inl (nI i))]) dX10_paints_120 (Nat.le_of_ble_eq_true rfl) rfl ?_
        refine G_iinc (v := (nI (i + 1))) (L2 := [some (.inr 50), some (.inl (nI x)), some (.inl (nI y)), some (.inl (nI x2)), some (.inl (nI y2)), some (.inl (nI c)), some (.inl (nI (fb_ct (fun i => rct x y x2 y2 (pl (s.2.1 0) i) && decide (s.2.1 (12 + pl (s.2.1 0) i) ≠ c)) (i + 1)))), some (.inl (nI (i + 1)))]) dX10_paints_122 rfl (nI_1 _) rfl ?_
        refine G_goto (tgt := 53) dX10_paints_125 (by decide) ?_
        exact ih (s.2.1 0 * s.2.1 1 - (i + 1)) (by omega) (i + 1) rfl (by omega)
      · refine G_aload_n dX10_paints_99 rfl rfl ?_
        refine G_getR (j := 51) dX10_paints_100 fX10_7 rfl rfl ?_
        refine G_bipush (v := (nI 12)) dX10_paints_103 (by decide) ?_
        refine G_iload dX10_paints_105 rfl ?_
        refine G_iadd (v := (nI (12 + i))) dX10_paints_107 (nI_add _ _) ?_
        refine G_iald (k := 12 + i) (v := (nI (s.2.1 (12 + pl (s.2.1 0) i)))) dX10_paints_108 rfl (vp_in_nI (by omega) (by omega)) (nI_clamp (by omega)) (hs.2 i (by omega)) ?_
        refine G_iload dX10_paints_109 rfl ?_
        refine Gn_icmp_eq (tgt := 118) dX10_paints_111 (by decide) (by omega) (by omega) (fun h111 => ?_) (fun h111 => ?_)
        · refine G_iconst (v := (nI 0)) dX10_paints_118 (by decide) ?_
          refine G_iadd (v := (nI (fb_ct (fun i => rct x y x2 y2 (pl (s.2.1 0) i) && decide (s.2.1 (12 + pl (s.2.1 0) i) ≠ c)) (i + 1)))) dX10_paints_119 (by rw [ct_s0 (P := (fun i => rct x y x2 y2 (pl (s.2.1 0) i) && decide (s.2.1 (12 + pl (s.2.1 0) i) ≠ c))) (by show (rct x y x2 y2 (pl (s.2.1 0) i) && decide (s.2.1 (12 + pl (s.2.1 0) i) ≠ c)) = false; rw [decide_eq_false (fun q => q h111), Bool.and_false])]; exact nI_add _ _) ?_
          refine G_istore (L2 := [some (.inr 50), some (.inl (nI x)), some (.inl (nI y)), some (.inl (nI x2)), some (.inl (nI y2)), some (.inl (nI c)), some (.inl (nI (fb_ct (fun i => rct x y x2 y2 (pl (s.2.1 0) i) && decide (s.2.1 (12 + pl (s.2.1 0) i) ≠ c)) (i + 1)))), some (.inl (nI i))]) dX10_paints_120 (Nat.le_of_ble_eq_true rfl) rfl ?_
          refine G_iinc (v := (nI (i + 1))) (L2 := [some (.inr 50), some (.inl (nI x)), some (.inl (nI y)), some (.inl (nI x2)), some (.inl (nI y2)), some (.inl (nI c)), some (.inl (nI (fb_ct (fun i => rct x y x2 y2 (pl (s.2.1 0) i) && decide (s.2.1 (12 + pl (s.2.1 0) i) ≠ c)) (i + 1)))), some (.inl (nI (i + 1)))]) dX10_paints_122 rfl (nI_1 _) rfl ?_
          refine G_goto (tgt := 53) dX10_paints_125 (by decide) ?_
          exact ih (s.2.1 0 * s.2.1 1 - (i + 1)) (by omega) (i + 1) rfl (by omega)
        · refine G_iconst (v := (nI 1)) dX10_paints_114 (by decide) ?_
          refine G_goto (tgt := 119) dX10_paints_115 (by decide) ?_
          refine G_iadd (v := (nI (fb_ct (fun i => rct x y x2 y2 (pl (s.2.1 0) i) && decide (s.2.1 (12 + pl (s.2.1 0) i) ≠ c)) (i + 1)))) dX10_paints_119 (by rw [ct_s1 (P := (fun i => rct x y x2 y2 (pl (s.2.1 0) i) && decide (s.2.1 (12 + pl (s.2.1 0) i) ≠ c))) (by show (rct x y x2 y2 (pl (s.2.1 0) i) && decide (s.2.1 (12 + pl (s.2.1 0) i) ≠ c)) = true; rw [hrp.mpr ⟨(inI_nn (by omega) (by omega) (by omega)).mp (dec_iff.mp h78), (inI_nn (by omega) (by omega) (by omega)).mp (dec_iff.mp h96)⟩, decide_eq_true h111]; rfl)]; exact nI_add _ _) ?_
          refine G_istore (L2 := [some (.inr 50), some (.inl (nI x)), some (.inl (nI y)), some (.inl (nI x2)), some (.inl (nI y2)), some (.inl (nI c)), some (.inl (nI (fb_ct (fun i => rct x y x2 y2 (pl (s.2.1 0) i) && decide (s.2.1 (12 + pl (s.2.1 0) i) ≠ c)) (i + 1)))), some (.inl (nI i))]) dX10_paints_120 (Nat.le_of_ble_eq_true rfl) rfl ?_
          refine G_iinc (v := (nI (i + 1))) (L2 := [some (.inr 50), some (.inl (nI x)), some (.inl (nI y)), some (.inl (nI x2)), some (.inl (nI y2)), some (.inl (nI c)), some (.inl (nI (fb_ct (fun i => rct x y x2 y2 (pl (s.2.1 0) i) && decide (s.2.1 (12 + pl (s.2.1 0) i) ≠ c)) (i + 1)))), some (.inl (nI (i + 1)))]) dX10_paints_122 rfl (nI_1 _) rfl ?_
          refine G_goto (tgt := 53) dX10_paints_125 (by decide) ?_
          exact ih (s.2.1 0 * s.2.1 1 - (i + 1)) (by omega) (i + 1) rfl (by omega)
theorem y_paints {d : Nat} {s : AS} {M : Mem} {x0 y0 z0 t0 c0 : Int32} (hY : YR s M) : Call l α D cA uX10_paints (d + 2) [.inr 50, .inl x0, .inl y0, .inl z0, .inl t0, .inl c0] M (PY M (nPaints s x0 y0 z0 t0 c0)) := by
  refine Call.of kX10_paints.1 (Nat.le_of_ble_eq_true rfl) ?_
  refine G_aload_n dX10_paints_0 rfl rfl ?_
  refine G_iconst (v := (nI 0)) dX10_paints_1 (by decide) ?_
  refine G_put dX10_paints_2 pX10_81 rfl rfl ?_
  have hF0 : FY M (ms M 50 0 (nI 0)) := FY_0
  generalize ms M 50 0 (nI 0) = M0 at hF0 ⊢
  have hY0 := YR_Y hY hF0
  obtain ⟨hok, hs, hPA, hKE, hFA, hTB⟩ := id hY0
  have hk := hok.1
  have hq0 := FY_50 hF0
  refine G_aload_n dX10_paints_5 rfl rfl ?_
  refine G_iload_n dX10_paints_6 rfl rfl ?_
  refine G_iload_n dX10_paints_7 rfl rfl ?_
  refine G_callVi (ν := uX10_isCell) (As := [.inl x0, .inl y0]) dX10_paints_8 nX10_147 kX10_isCell rfl rfl rfl rfl rfl (Nat.le_of_ble_eq_true rfl) (y_isCell hs hk) ?_
  rintro _ M8 ⟨rfl, e9⟩
  subst M8
  refine Gb_if_eq (tgt := 45) dX10_paints_11 (by decide) (fun h11 => ?_) (fun h11 => ?_)
  · refine G_iconst (v := ((-1))) dX10_paints_45 (by decide) ?_
    refine G_iret dX10_paints_46 rfl rfl ?_
    rw [nPaints, cI_f (fun q => notrue h11 q.1)]
    exact PY_r hY0 hq0
  · refine G_aload_n dX10_paints_14 rfl rfl ?_
    refine G_iload_n dX10_paints_15 rfl rfl ?_
    refine G_iload dX10_paints_16 rfl ?_
    refine G_callVi (ν := uX10_isCell) (As := [.inl z0, .inl t0]) dX10_paints_18 nX10_147 kX10_isCell rfl rfl rfl rfl rfl (Nat.le_of_ble_eq_true rfl) (y_isCell hs hk) ?_
    rintro _ M8 ⟨rfl, e9⟩
    subst M8
    refine Gb_if_eq (tgt := 45) dX10_paints_21 (by decide) (fun h21 => ?_) (fun h21 => ?_)
    · refine G_iconst (v := ((-1))) dX10_paints_45 (by decide) ?_
      refine G_iret dX10_paints_46 rfl rfl ?_
      rw [nPaints, cI_f (fun q => notrue h21 q.2.1)]
      exact PY_r hY0 hq0
    · refine G_iload_n dX10_paints_24 rfl rfl ?_
      refine G_iload_n dX10_paints_25 rfl rfl ?_
      refine G_icmp_lt (tgt := 45) dX10_paints_26 (by decide) (fun h26 => ?_) (fun h26 => ?_)
      · refine G_iconst (v := ((-1))) dX10_paints_45 (by decide) ?_
        refine G_iret dX10_paints_46 rfl rfl ?_
        rw [nPaints, cI_f (fun q => q.2.2.1 h26)]
        exact PY_r hY0 hq0
      · refine G_iload dX10_paints_29 rfl ?_
        refine G_iload_n dX10_paints_31 rfl rfl ?_
        refine G_icmp_lt (tgt := 45) dX10_paints_32 (by decide) (fun h32 => ?_) (fun h32 => ?_)
        · refine G_iconst (v := ((-1))) dX10_paints_45 (by decide) ?_
          refine G_iret dX10_paints_46 rfl rfl ?_
          rw [nPaints, cI_f (fun q => q.2.2.2.1 h32)]
          exact PY_r hY0 hq0
        · refine G_iload dX10_paints_35 rfl ?_
          refine G_iconst (v := (nI 0)) dX10_paints_37 (by decide) ?_
          refine G_iconst (v := (nI 3)) dX10_paints_38 (by decide) ?_
          refine G_callSi (ν := uX10_in) (As := [.inl c0, .inl (nI 0), .inl (nI 3)]) dX10_paints_39 nX10_85 kX10_in rfl rfl rfl (Nat.le_of_ble_eq_true rfl) (y_inI (lo := 0) (hi := 3)) ?_
          rintro _ M8 ⟨rfl, e9⟩
          subst M8
          refine Gb_if_ne (tgt := 47) dX10_paints_42 (by decide) (fun h42 => ?_) (fun h42 => ?_)
          · obtain ⟨x, y, hx, hy, rfl, rfl⟩ := hasD_nI h11 hk.1.1 hk.2.1.1 hk.1.2 hk.2.1.2
            obtain ⟨x2, y2, hx2, hy2, rfl, rfl⟩ := hasD_nI h21 hk.1.1 hk.2.1.1 hk.1.2 hk.2.1.2
            obtain ⟨c, -, hc, rfl⟩ := inI_nI (dec_iff.mp h42) (by decide) (by decide)
            have h8 := hk.1.2
            have h6 := hk.2.1.2
            rw [nPaints, cI_t ⟨h11, h21, h26, h32, dec_iff.mp h42⟩, nN (by omega), nN (by omega), nN (by omega), nN (by omega), nN (by omega)]
            refine G_iconst (v := (nI 0)) dX10_paints_47 (by decide) ?_
            refine G_istore (L2 := [some (.inr 50), some (.inl (nI x)), some (.inl (nI y)), some (.inl (nI x2)), some (.inl (nI y2)), some (.inl (nI c)), some (.inl (nI 0)), none]) dX10_paints_48 (Nat.le_of_ble_eq_true rfl) rfl ?_
            refine G_iconst (v := (nI 0)) dX10_paints_50 (by decide) ?_
            refine G_istore (L2 := [some (.inr 50), some (.inl (nI x)), some (.inl (nI y)), some (.inl (nI x2)), some (.inl (nI y2)), some (.inl (nI c)), some (.inl (nI 0)), some (.inl (nI 0))]) dX10_paints_51 (Nat.le_of_ble_eq_true rfl) rfl ?_
            exact ly_pa1 hY0 hq0 (by omega) (by omega) hx2 hy2 hc _ 0 rfl (Nat.zero_le _)
          · refine G_iconst (v := ((-1))) dX10_paints_45 (by decide) ?_
            refine G_iret dX10_paints_46 rfl rfl ?_
            rw [nPaints, cI_f (fun q => dec_niff.mp h42 q.2.2.2.2)]
            exact PY_r hY0 hq0
end P36
