/-! The reference: reads and tells -/
section P43
variable {l : Launch} {α : Nat → Nat} {D : va_G} {cA : Nat → ClassId}
theorem pRd_end {n : Nat} {t : Nat → Nat} {s : RT} (h : tkK n t s.1 = 0) : ∀ k m, pRd n t k m s = (true, m, s) := by
  intro k m
  cases k with
  | zero => rfl
  | succ k => rw [pRd, if_pos h]
theorem pRd_no {n : Nat} {t : Nat → Nat} {s : RT} (h : tkK n t s.1 ≠ 0) (h2 : (pItem n t s).1 = false) (k m : Nat) : pRd n t (k + 1) m s = (false, m, (pItem n t s).2) := by rw [pRd, if_neg h, h2, if_neg (by decide)]
theorem pRd_yes {n : Nat} {t : Nat → Nat} {s : RT} (h : tkK n t s.1 ≠ 0) (h2 : (pItem n t s).1 = true) (k m : Nat) : pRd n t (k + 1) m s = pRd n t k (m + 1) (pItem n t s).2 := by rw [pRd, if_neg h, h2, if_pos rfl]
theorem isWt_V {n : Nat} {t : Nat → Nat} {i w : Nat} (h : tkK n t i = 2) : isWt n t i w = dec (isV t (tkS n t i) (tkE n t i) w) := by
  unfold isWt
  exact dec_eq ⟨fun z => z.2, fun z => ⟨h, z⟩⟩
theorem isWt_n {n : Nat} {t : Nat → Nat} {i w : Nat} (h : tkK n t i ≠ 2) : isWt n t i w = false := dec_f (fun z => h z.1)
theorem mtk_w {n : Nat} {t : Nat → Nat} {i : Nat} (h : 1 ≤ mtk n t i) (h5 : mtk n t i ≤ 5) : tkK n t i = 2 ∧ mtk n t i = mW t (tkS n t i) (tkE n t i) := by
  by_cases k : tkK n t i = 2
  · exact ⟨k, mtk_2 k⟩
  · exfalso
    unfold mtk at h h5
    rw [if_neg k] at h h5
    split at h
    · omega
    · split at h
      · rename_i a b; rw [if_neg a, if_pos b] at h5; omega
      · rename_i a b
        rw [if_neg a, if_neg b] at h5
        split at h <;> rename_i c
        · rw [if_pos c] at h5; omega
        · rw [if_neg c] at h5; omega
theorem mW_1 {t : Nat → Nat} {s e : Nat} (h : mW t s e = 1) : dec (isV t s e 0) = true := by
  unfold mW at h
  split at h
  · assumption
  · split at h <;> (try split at h) <;> (try split at h) <;> (try split at h) <;> omega
theorem mW_2 {t : Nat → Nat} {s e : Nat} (h : mW t s e = 2) : dec (isV t s e 0) = false ∧ dec (isV t s e 1) = true := by
  unfold mW at h
  split at h
  · omega
  · next a =>
    split at h
    · next b => exact ⟨Bool.eq_false_iff.mpr a, b⟩
    · split at h <;> (try split at h) <;> (try split at h) <;> omega
theorem mW_3 {t : Nat → Nat} {s e : Nat} (h : mW t s e = 3) : dec (isV t s e 0) = false ∧ dec (isV t s e 1) = false ∧ dec (isV t s e 2) = true := by
  unfold mW at h
  split at h
  · omega
  · next a =>
    split at h
    · omega
    · next b =>
      split at h
      · next c => exact ⟨Bool.eq_false_iff.mpr a, Bool.eq_false_iff.mpr b, c⟩
      · split at h <;> (try split at h) <;> omega
theorem mW_4 {t : Nat → Nat} {s e : Nat} (h : mW t s e = 4) : dec (isV t s e 0) = false ∧ dec (isV t s e 1) = false ∧ dec (isV t s e 2) = false ∧ dec (isV t s e 3) = true := by
  unfold mW at h
  split at h
  · omega
  · next a =>
    split at h
    · omega
    · next b =>
      split at h
      · omega
      · next c =>
        split at h
        · next f => exact ⟨Bool.eq_false_iff.mpr a, Bool.eq_false_iff.mpr b, Bool.eq_false_iff.mpr c, f⟩
        · split at h <;> omega
theorem mW_5 {t : Nat → Nat} {s e : Nat} (h : mW t s e = 5) : dec (isV t s e 0) = false ∧ dec (isV t s e 1) = false ∧ dec (isV t s e 2) = false ∧ dec (isV t s e 3) = false ∧ dec (isV t s e 4) = true := by
  unfold mW at h
  split at h
  · omega
  · next a =>
    split at h
    · omega
    · next b =>
      split at h
      · omega
      · next c =>
        split at h
        · omega
        · next f =>
          split at h
          · next g => exact ⟨Bool.eq_false_iff.mpr a, Bool.eq_false_iff.mpr b, Bool.eq_false_iff.mpr c, Bool.eq_false_iff.mpr f, g⟩
          · omega
theorem mW_n {t : Nat → Nat} {s e : Nat} (h : mW t s e = 8) : ∀ w, w < 5 → dec (isV t s e w) = false := by
  unfold mW at h
  split at h
  · omega
  · next a =>
    split at h
    · omega
    · next b =>
      split at h
      · omega
      · next c =>
        split at h
        · omega
        · next f =>
          split at h
          · omega
          · next g =>
            intro w hw
            rcases (show w = 0 ∨ w = 1 ∨ w = 2 ∨ w = 3 ∨ w = 4 by omega) with rfl | rfl | rfl | rfl | rfl
            · exact Bool.eq_false_iff.mpr a
            · exact Bool.eq_false_iff.mpr b
            · exact Bool.eq_false_iff.mpr c
            · exact Bool.eq_false_iff.mpr f
            · exact Bool.eq_false_iff.mpr g
theorem isV_0 {t : Nat → Nat} {s e w : Nat} (h : isV t s e 0) (hw : 1 ≤ w) (hw5 : w < 5) : ¬ isV t s e w := by
  rintro ⟨a, b⟩
  have h0 := h.2 0 (by decide)
  have b0 := b 0 (by have := wl_4 w hw5; omega)
  have hl := h.1
  rw [h0] at b0
  rw [hl] at a
  rcases (show w = 1 ∨ w = 2 ∨ w = 3 ∨ w = 4 by omega) with rfl | rfl | rfl | rfl
  · exact absurd b0 (by decide)
  · exact absurd a (by decide)
  · exact absurd b0 (by decide)
  · exact absurd b0 (by decide)
/-- an item, by the token it begins with -/
theorem pI_row {n : Nat} {t : Nat → Nat} {s : RT} (h : mtk n t s.1 = 1) (h6 : s.2.2 < 6) : pItem n t s = bnd (pCells n t (tkE n t s.1, s.2)) (pSemi n t) := by
  obtain ⟨k, e⟩ := mtk_w (n := n) (t := t) (i := s.1) (by omega) (by omega)
  have := mW_1 (e.symm.trans h)
  rw [pItem, if_pos ⟨by rw [isWt_V k]; exact this, h6⟩]
theorem pI_rowN {n : Nat} {t : Nat → Nat} {s : RT} (h : mtk n t s.1 = 1) (h6 : ¬ s.2.2 < 6) : pItem n t s = (false, s) := by
  obtain ⟨k, e⟩ := mtk_w (n := n) (t := t) (i := s.1) (by omega) (by omega)
  have hv := dec_iff.mp (mW_1 (e.symm.trans h))
  rw [pItem, if_neg (fun q => h6 q.2), isWt_V k, isWt_V k, isWt_V k, isWt_V k, dec_f (isV_0 hv (by decide) (by decide)), dec_f (isV_0 hv (by decide) (by decide)), dec_f (isV_0 hv (by decide) (by decide)), dec_f (isV_0 hv (by decide) (by decide))]
  rfl
theorem pI_way {n : Nat} {t : Nat → Nat} {s : RT} (h : mtk n t s.1 = 2) : pItem n t s = bnd (pOf n t 4 1 s) (pSemi n t) := by
  obtain ⟨k, e⟩ := mtk_w (n := n) (t := t) (i := s.1) (by omega) (by omega)
  obtain ⟨a, b⟩ := mW_2 (e.symm.trans h)
  rw [pItem, if_neg (fun q => by have := q.1; rw [isWt_V k, a] at this; cases this), if_pos (by rw [isWt_V k]; exact b)]
theorem pI_rank {n : Nat} {t : Nat → Nat} {s : RT} (h : mtk n t s.1 = 3) : pItem n t s = bnd (pOf n t 8 9 s) (pSemi n t) := by
  obtain ⟨k, e⟩ := mtk_w (n := n) (t := t) (i := s.1) (by omega) (by omega)
  obtain ⟨a, b, c⟩ := mW_3 (e.symm.trans h)
  rw [pItem, if_neg (fun q => by have := q.1; rw [isWt_V k, a] at this; cases this), if_neg (by rw [isWt_V k, b]; decide), if_pos (by rw [isWt_V k]; exact c)]
theorem pI_most {n : Nat} {t : Nat → Nat} {s : RT} (h : mtk n t s.1 = 4) : pItem n t s = bnd (pVal n t 2 1 5 (tkE n t s.1, s.2)) (pSemi n t) := by
  obtain ⟨k, e⟩ := mtk_w (n := n) (t := t) (i := s.1) (by omega) (by omega)
  obtain ⟨a, b, c, f⟩ := mW_4 (e.symm.trans h)
  rw [pItem, if_neg (fun q => by have := q.1; rw [isWt_V k, a] at this; cases this), if_neg (by rw [isWt_V k, b]; decide), if_neg (by rw [isWt_V k, c]; decide), if_pos (by rw [isWt_V k]; exact f)]
theorem pI_pull {n : Nat} {t : Nat → Nat} {s : RT} (h : mtk n t s.1 = 5) : pItem n t s = bnd (pVal n t 3 0 2 (tkE n t s.1, s.2)) (pSemi n t) := by
  obtain ⟨k, e⟩ := mtk_w (n := n) (t := t) (i := s.1) (by omega) (by omega)
  obtain ⟨a, b, c, f, g⟩ := mW_5 (e.symm.trans h)
  rw [pItem, if_neg (fun q => by have := q.1; rw [isWt_V k, a] at this; cases this), if_neg (by rw [isWt_V k, b]; decide), if_neg (by rw [isWt_V k, c]; decide), if_neg (by rw [isWt_V k, f]; decide), if_pos (by rw [isWt_V k]; exact g)]
theorem pI_no {n : Nat} {t : Nat → Nat} {s : RT} (h : 6 ≤ mtk n t s.1) : pItem n t s = (false, s) := by
  have hw : ∀ w, w < 5 → isWt n t s.1 w = false := fun w hw => by
    by_cases k : tkK n t s.1 = 2
    · rw [isWt_V k]
      refine mW_n ?_ w hw
      rw [mtk_2 k] at h
      have := mW_8 (t := t) (s := tkS n t s.1) (e := tkE n t s.1)
      omega
    · exact isWt_n k
  rw [pItem, hw 0 (by decide), hw 1 (by decide), hw 2 (by decide), hw 3 (by decide), hw 4 (by decide)]
  simp
/-- what reading leaves -/
def RQ (n : Nat) (t : Nat → Nat) (M : Mem) (r : AV) (M1 : Mem) : Prop := FPz M M1 ∧ ∀ q, pRd n t 120 0 (0, gS, 0) = q → ((q.1 = false ∨ q.2.2.2.2 = 0) ∧ M1 50 14 = nI (tkS n t q.2.2.1) ∧ q.2.2.1 ≤ n ∧ ∃ v, r = .inl v) ∨ (¬ (q.1 = false ∨ q.2.2.2.2 = 0) ∧ M1 50 14 = -9 ∧ r = .inl (nI q.2.1) ∧ DR q.2.2.2.1 q.2.2.2.2 (M1 52) ∧ PV n q.2.2)
theorem ly_rdY {d n : Nat} {t : Nat → Nat} {M : Mem} (hT : TBm n t M) {i m0 : Nat} {q : Bool × Nat × RT} {M1 : Mem} (hF : FPz M M1) (hi : i ≤ n) (h14 : M1 50 14 = nI (tkS n t i)) (hq : pRd n t 120 0 (0, gS, 0) = q) (h1 : q.1 = false ∨ q.2.2.2.2 = 0) (h2 : q.2.2.1 = i) : G l α D cA uX10_reads none (d + 7) (RQ n t M) 176 [some (.inr 50), some (.inl (nI m0))] [] M1 := by
  have hn := hT.2.1
  refine G_aload_n dX10_reads_176 rfl rfl ?_
  refine G_aload_n dX10_reads_177 rfl rfl ?_
  refine G_getR (j := 52) dX10_reads_178 fX10_13 rfl rfl ?_
  refine G_iconst (v := (nI 1)) dX10_reads_181 (by decide) ?_
  refine G_iald (k := 1) (v := (M1 52 1)) dX10_reads_182 rfl (vp_in_nI (by decide) (by decide)) rfl rfl ?_
  refine G_if_le (tgt := 190) dX10_reads_183 (by decide) (fun h183 => ?_) (fun h183 => ?_)
  · refine G_iconst (v := (nI 0)) dX10_reads_190 (by decide) ?_
    refine G_callVv (ν := uX10_takes) (As := [.inl (nI 0)]) dX10_reads_191 nX10_119 kX10_takes rfl rfl rfl rfl rfl (Nat.le_of_ble_eq_true rfl) (y_takes_e h14 (tkS_lt hi hn)) ?_
    rintro _ M8 e9
    subst M8
    refine G_iload_n dX10_reads_194 rfl rfl ?_
    refine G_iret dX10_reads_195 rfl rfl ?_
    exact ⟨hF, fun q9 e9 => by
      rw [hq] at e9
      subst e9
      exact Or.inl ⟨h1, by rw [h2]; exact h14, by rw [h2]; exact hi, _, rfl⟩⟩
  · refine G_iconst (v := (nI 1)) dX10_reads_186 (by decide) ?_
    refine G_goto (tgt := 191) dX10_reads_187 (by decide) ?_
    refine G_callVv (ν := uX10_takes) (As := [.inl (nI 1)]) dX10_reads_191 nX10_119 kX10_takes rfl rfl rfl rfl rfl (Nat.le_of_ble_eq_true rfl) (y_takes_e h14 (tkS_lt hi hn)) ?_
    rintro _ M8 e9
    subst M8
    refine G_iload_n dX10_reads_194 rfl rfl ?_
    refine G_iret dX10_reads_195 rfl rfl ?_
    exact ⟨hF, fun q9 e9 => by
      rw [hq] at e9
      subst e9
      exact Or.inl ⟨h1, by rw [h2]; exact h14, by rw [h2]; exact hi, _, rfl⟩⟩
theorem ly_rdX {d n : Nat} {t : Nat → Nat} {M : Mem} (hT : TBm n t M) {i m0 : Nat} {q : Bool × Nat × RT} {M1 : Mem} (hm : m0 < 2 ^ 31) (hF : FPz M M1) (hi : i ≤ n) (h14 : M1 50 14 = nI (tkS n t i)) (hq : pRd n t 120 0 (0, gS, 0) = q) (h1 : q.1 = false) (h2 : q.2.2.1 = i) : G l α D cA uX10_reads none (d + 7) (RQ n t M) 45 [some (.inr 50), some (.inl (nI m0))] [] M1 := by
  have hn := hT.2.1
  refine G_aload_n dX10_reads_45 rfl rfl ?_
  refine G_getI (v := (nI (tkS n t i))) dX10_reads_46 fX10_113 rfl rfl h14 ?_
  refine G_bipush (v := ((-9))) dX10_reads_49 (by decide) ?_
  refine G_icmp_ne (tgt := 176) dX10_reads_51 (by decide) (fun h51 => ?_) (fun h51 => ?_)
  · exact ly_rdY hT hF hi h14 hq (Or.inl h1) h2
  · exact absurd h51 (no9 (tkS_lt hi hn))
theorem ly_rd2t {d n : Nat} {t : Nat → Nat} {M : Mem} (hT : TBm n t M) {s p : RT} {m0 : Nat} {M3 : Mem} (hF : FPz M M3) (hD : DSm n t p M3) (hV : PV n p) (hI : pItem n t s = bnd (true, p) (pSemi n t)) (back : ∀ (s2 : RT) (M4 : Mem), FPz M M4 → DSm n t s2 M4 → pItem n t s = (true, s2) → G l α D cA uX10_reads none (d + 7) (RQ n t M) 45 [some (.inr 50), some (.inl (nI (m0 + 1)))] [] M4) (exit : ∀ (s2 : RT) (M4 : Mem), FPz M M4 → s2.1 ≤ n → M4 50 14 = nI (tkS n t s2.1) → pItem n t s = (false, s2) → G l α D cA uX10_reads none (d + 7) (RQ n t M) 45 [some (.inr 50), some (.inl (nI (m0 + 1)))] [] M4) : G l α D cA uX10_reads none (d + 7) (RQ n t M) 152 [some (.inr 50), some (.inl (nI m0))] [] M3 := by
  have hn := hT.2.1
  have hm8 := mtk_8 (n := n) (t := t) (i := p.1)
  have hT3 := TB_z hT hF
  have hI2 : pItem n t s = pSemi n t p := hI
  refine G_aload_n dX10_reads_152 rfl rfl ?_
  refine G_aload_n dX10_reads_153 rfl rfl ?_
  refine G_getI (v := (nI (mtk n t p.1))) dX10_reads_154 fX10_106 rfl rfl hD.1.2.2 ?_
  refine G_bipush (v := (nI 7)) dX10_reads_157 (by decide) ?_
  refine Gn_icmp_ne (tgt := 166) dX10_reads_159 (by decide) (by omega) (by omega) (fun h159 => ?_) (fun h159 => ?_)
  · refine G_iconst (v := (nI 0)) dX10_reads_166 (by decide) ?_
    refine G_callVv (ν := uX10_takes) (As := [.inl (nI 0)]) dX10_reads_167 nX10_119 kX10_takes rfl rfl rfl rfl rfl (Nat.le_of_ble_eq_true rfl) (y_takes_f hD.1 hD.2.1) ?_
    rintro _ M4 rfl
    refine G_iinc (v := (nI (m0 + 1))) (L2 := [some (.inr 50), some (.inl (nI (m0 + 1)))]) dX10_reads_170 rfl (nI_1 _) rfl ?_
    refine G_goto (tgt := 45) dX10_reads_173 (by decide) ?_
    refine exit p _ (FPz_14 hF) hV.1 (by rw [ms_o]; exact upd_k) ?_
    rw [hI2, pSemi, if_neg (fun q => h159 (mtk_7.mpr q))]
  · refine G_iconst (v := (nI 1)) dX10_reads_162 (by decide) ?_
    refine G_goto (tgt := 167) dX10_reads_163 (by decide) ?_
    refine G_callVv (ν := uX10_takes) (As := [.inl (nI 1)]) dX10_reads_167 nX10_119 kX10_takes rfl rfl rfl rfl rfl (Nat.le_of_ble_eq_true rfl) (y_takes_t hT3 hV.1 hD.1 hD.2.1) ?_
    rintro _ M4 ⟨hF4, hK4⟩
    refine G_iinc (v := (nI (m0 + 1))) (L2 := [some (.inr 50), some (.inl (nI (m0 + 1)))]) dX10_reads_170 rfl (nI_1 _) rfl ?_
    refine G_goto (tgt := 45) dX10_reads_173 (by decide) ?_
    refine back (tkE n t p.1, p.2) M4 (FPz_t hF (FPz_K hF4)) ⟨hK4, (hF4.2 14 (by decide) (by decide) (by decide)).trans hD.2.1, by rw [hF4.1 52 (by decide)]; exact hD.2.2⟩ ?_
    rw [hI2, pSemi, if_pos (mtk_7.mp h159)]
theorem ly_rd2f {d n : Nat} {t : Nat → Nat} {M : Mem} (hT : TBm n t M) {s p : RT} {m0 : Nat} {M3 : Mem} (hF : FPz M M3) (hK : TKm n t p.1 M3) (h14 : M3 50 14 = nI (tkS n t p.1)) (hi : p.1 ≤ n) (hI : pItem n t s = (false, p)) (back : ∀ (s2 : RT) (M4 : Mem), FPz M M4 → DSm n t s2 M4 → pItem n t s = (true, s2) → G l α D cA uX10_reads none (d + 7) (RQ n t M) 45 [some (.inr 50), some (.inl (nI (m0 + 1)))] [] M4) (exit : ∀ (s2 : RT) (M4 : Mem), FPz M M4 → s2.1 ≤ n → M4 50 14 = nI (tkS n t s2.1) → pItem n t s = (false, s2) → G l α D cA uX10_reads none (d + 7) (RQ n t M) 45 [some (.inr 50), some (.inl (nI (m0 + 1)))] [] M4) : G l α D cA uX10_reads none (d + 7) (RQ n t M) 152 [some (.inr 50), some (.inl (nI m0))] [] M3 := by
  have hn := hT.2.1
  have hm8 := mtk_8 (n := n) (t := t) (i := p.1)
  refine G_aload_n dX10_reads_152 rfl rfl ?_
  refine G_aload_n dX10_reads_153 rfl rfl ?_
  refine G_getI (v := (nI (mtk n t p.1))) dX10_reads_154 fX10_106 rfl rfl hK.2.2 ?_
  refine G_bipush (v := (nI 7)) dX10_reads_157 (by decide) ?_
  refine Gn_icmp_ne (tgt := 166) dX10_reads_159 (by decide) (by omega) (by omega) (fun h159 => ?_) (fun h159 => ?_)
  · refine G_iconst (v := (nI 0)) dX10_reads_166 (by decide) ?_
    refine G_callVv (ν := uX10_takes) (As := [.inl (nI 0)]) dX10_reads_167 nX10_119 kX10_takes rfl rfl rfl rfl rfl (Nat.le_of_ble_eq_true rfl) (y_takes_e h14 (tkS_lt hi hn)) ?_
    rintro _ M8 e9
    subst M8
    refine G_iinc (v := (nI (m0 + 1))) (L2 := [some (.inr 50), some (.inl (nI (m0 + 1)))]) dX10_reads_170 rfl (nI_1 _) rfl ?_
    refine G_goto (tgt := 45) dX10_reads_173 (by decide) ?_
    exact exit p M3 hF hi h14 hI
  · refine G_iconst (v := (nI 1)) dX10_reads_162 (by decide) ?_
    refine G_goto (tgt := 167) dX10_reads_163 (by decide) ?_
    refine G_callVv (ν := uX10_takes) (As := [.inl (nI 1)]) dX10_reads_167 nX10_119 kX10_takes rfl rfl rfl rfl rfl (Nat.le_of_ble_eq_true rfl) (y_takes_e h14 (tkS_lt hi hn)) ?_
    rintro _ M8 e9
    subst M8
    refine G_iinc (v := (nI (m0 + 1))) (L2 := [some (.inr 50), some (.inl (nI (m0 + 1)))]) dX10_reads_170 rfl (nI_1 _) rfl ?_
    refine G_goto (tgt := 45) dX10_reads_173 (by decide) ?_
    exact exit p M3 hF hi h14 hI
theorem ly_rd2 {d n : Nat} {t : Nat → Nat} {M : Mem} (hT : TBm n t M) {s : RT} {p : Bool × RT} {m0 : Nat} {M3 : Mem} (hF : FPz M M3) (hS : STm n t p M3) (hV : PV n p.2) (hI : pItem n t s = bnd p (pSemi n t)) (back : ∀ (s2 : RT) (M4 : Mem), FPz M M4 → DSm n t s2 M4 → pItem n t s = (true, s2) → G l α D cA uX10_reads none (d + 7) (RQ n t M) 45 [some (.inr 50), some (.inl (nI (m0 + 1)))] [] M4) (exit : ∀ (s2 : RT) (M4 : Mem), FPz M M4 → s2.1 ≤ n → M4 50 14 = nI (tkS n t s2.1) → pItem n t s = (false, s2) → G l α D cA uX10_reads none (d + 7) (RQ n t M) 45 [some (.inr 50), some (.inl (nI (m0 + 1)))] [] M4) : G l α D cA uX10_reads none (d + 7) (RQ n t M) 152 [some (.inr 50), some (.inl (nI m0))] [] M3 := by
  obtain ⟨b, p⟩ := p
  cases b with
  | true =>
    unfold STm at hS
    rw [if_pos rfl] at hS
    exact ly_rd2t hT hF hS hV hI back exit
  | false =>
    unfold STm at hS
    simp only [Bool.false_eq_true, if_false] at hS
    exact ly_rd2f hT hF hS.1 hS.2 hV.1 hI back exit
theorem ly_rdL {d n : Nat} {t : Nat → Nat} {M : Mem} (hT : TBm n t M) : ∀ (k m0 : Nat) (s : RT) (M1 : Mem), 120 - m0 = k → m0 ≤ 120 → m0 ≤ s.1 → FPz M M1 → DSm n t s M1 → PV n s → pRd n t 120 0 (0, gS, 0) = pRd n t k m0 s → G l α D cA uX10_reads none (d + 7) (RQ n t M) 45 [some (.inr 50), some (.inl (nI m0))] [] M1 := by
  have hn := hT.2.1
  intro k
  induction k using Nat.strongRecOn with
  | _ k ih => ?_
  intro m0 s M1 hkk hm0 hms hF hD hV hq
  have hm8 := mtk_8 (n := n) (t := t) (i := s.1)
  have hr6 := hV.2.1
  have hT1 := TB_z hT hF
  refine G_aload_n dX10_reads_45 rfl rfl ?_
  refine G_getI (v := ((-9))) dX10_reads_46 fX10_113 rfl rfl hD.2.1 ?_
  refine G_bipush (v := ((-9))) dX10_reads_49 (by decide) ?_
  refine G_icmp_ne (tgt := 176) dX10_reads_51 (by decide) (fun h51 => ?_) (fun h51 => ?_)
  · exact absurd rfl h51
  · rcases (show mtk n t s.1 = 0 ∨ mtk n t s.1 = 1 ∨ mtk n t s.1 = 2 ∨ mtk n t s.1 = 3 ∨ mtk n t s.1 = 4 ∨ mtk n t s.1 = 5 ∨ mtk n t s.1 = 6 ∨ mtk n t s.1 = 7 ∨ mtk n t s.1 = 8 by omega) with hm | hm | hm | hm | hm | hm | hm | hm | hm
    · skip
      refine G_aload_n dX10_reads_54 rfl rfl ?_
      refine G_getI (v := (nI 0)) dX10_reads_55 fX10_106 rfl rfl (hD.1.2.2.trans (by rw [hm])) ?_
      refine Gn_if_eq (tgt := 176) dX10_reads_58 (by decide) (by omega) (fun h58 => ?_) (fun h58 => ?_)
      · refine G_aload_n dX10_reads_176 rfl rfl ?_
        refine G_aload_n dX10_reads_177 rfl rfl ?_
        refine G_getR (j := 52) dX10_reads_178 fX10_13 rfl rfl ?_
        refine G_iconst (v := (nI 1)) dX10_reads_181 (by decide) ?_
        refine G_iald (k := 1) (v := (nI (s.2.2))) dX10_reads_182 rfl (vp_in_nI (by decide) (by decide)) rfl hD.2.2.2.1 ?_
        refine Gn_if_le (tgt := 190) dX10_reads_183 (by decide) (by omega) (fun h183 => ?_) (fun h183 => ?_)
        · refine G_iconst (v := (nI 0)) dX10_reads_190 (by decide) ?_
          refine G_callVv (ν := uX10_takes) (As := [.inl (nI 0)]) dX10_reads_191 nX10_119 kX10_takes rfl rfl rfl rfl rfl (Nat.le_of_ble_eq_true rfl) (y_takes_f hD.1 hD.2.1) ?_
          rintro _ M4 rfl
          refine G_iload_n dX10_reads_194 rfl rfl ?_
          refine G_iret dX10_reads_195 rfl rfl ?_
          refine ⟨FPz_14 hF, fun q9 e9 => Or.inl ?_⟩
          rw [hq, pRd_end (mtk_z.mp hm)] at e9
          subst e9
          exact ⟨Or.inr (show s.2.2 = 0 by omega), by rw [ms_o]; exact upd_k, hV.1, _, rfl⟩
        · refine G_iconst (v := (nI 1)) dX10_reads_186 (by decide) ?_
          refine G_goto (tgt := 191) dX10_reads_187 (by decide) ?_
          refine G_callVv (ν := uX10_takes) (As := [.inl (nI 1)]) dX10_reads_191 nX10_119 kX10_takes rfl rfl rfl rfl rfl (Nat.le_of_ble_eq_true rfl) (y_takes_t (TB_z hT hF) hV.1 hD.1 hD.2.1) ?_
          rintro _ M4 ⟨hF4, hK4⟩
          refine G_iload_n dX10_reads_194 rfl rfl ?_
          refine G_iret dX10_reads_195 rfl rfl ?_
          refine ⟨FPz_t hF (FPz_K hF4), fun q9 e9 => Or.inr ?_⟩
          rw [hq, pRd_end (mtk_z.mp hm)] at e9
          subst e9
          exact ⟨fun z => z.elim (fun y => by cases y) (fun y => by have y : s.2.2 = 0 := y; omega), (hF4.2 14 (by decide) (by decide) (by decide)).trans hD.2.1, rfl, by rw [hF4.1 52 (by decide)]; exact hD.2.2, hV⟩
      · omega
    · have hK0 : tkK n t s.1 ≠ 0 := fun z => by rw [mtk_0 z] at hm; omega
      have hm120 : m0 < 120 := by
        have q := tok_TF (n := n) (t := t) hV.1
        have := q.2.2.2.2 hK0
        have := tkE_in (n := n) (t := t) hV.1
        omega
      refine G_aload_n dX10_reads_54 rfl rfl ?_
      refine G_getI (v := (nI 1)) dX10_reads_55 fX10_106 rfl rfl (hD.1.2.2.trans (by rw [hm])) ?_
      refine Gn_if_eq (tgt := 176) dX10_reads_58 (by decide) (by omega) (fun h58 => ?_) (fun h58 => ?_)
      · omega
      · refine G_aload_n dX10_reads_61 rfl rfl ?_
        refine G_getI (v := (nI 1)) dX10_reads_62 fX10_106 rfl rfl (hD.1.2.2.trans (by rw [hm])) ?_
        refine G_swIn (tgt := 100) dX10_reads_65 (by decide) (by decide) rfl (by decide) ?_
        by_cases h6 : s.2.2 < 6
        · skip
          refine G_aload_n dX10_reads_100 rfl rfl ?_
          refine G_callVv (ν := uX10_readsRow) (As := []) dX10_reads_101 nX10_127 kX10_readsRow rfl rfl rfl rfl rfl (Nat.le_of_ble_eq_true rfl) (y_readsRow hT1 hV hD h6) ?_
          rintro _ M3 ⟨hF3, hS3⟩
          refine G_goto (tgt := 152) dX10_reads_104 (by decide) ?_
          refine ly_rd2 hT (FPz_t hF hF3) hS3 (pCells_V (s := (tkE n t s.1, s.2)) ⟨(tkE_in hV.1).1, hV.2⟩ h6).1 (pI_row hm h6) (fun s2 M4 hF4 hD4 hI4 => ?_) (fun s2 M4 hF4 hi4 h14 hI4 => ?_)
          · have hPV := pItem_V (t := t) hV
            rw [hI4] at hPV
            have hk1 : k = (119 - m0) + 1 := by omega
            refine ih (119 - m0) (by omega) (m0 + 1) s2 M4 (by omega) (by omega) (by have : s.1 < s2.1 := hPV.2 rfl; omega) hF4 hD4 hPV.1 ?_
            rw [hq, hk1, pRd_yes hK0 (by rw [hI4]), hI4]
          · have hk1 : k = (119 - m0) + 1 := by omega
            exact ly_rdX hT (by omega) hF4 hi4 h14 (by rw [hq, hk1, pRd_no hK0 (by rw [hI4]), hI4]) rfl rfl
        · skip
          refine G_aload_n dX10_reads_100 rfl rfl ?_
          refine G_callVv (ν := uX10_readsRow) (As := []) dX10_reads_101 nX10_127 kX10_readsRow rfl rfl rfl rfl rfl (Nat.le_of_ble_eq_true rfl) (y_readsRow_no hT1 hV hD h6 (mtk_w (by omega) (by omega)).1) ?_
          rintro _ M3 ⟨hF3, hS3⟩
          refine G_goto (tgt := 152) dX10_reads_104 (by decide) ?_
          refine ly_rd2 (p := (false, s)) hT (FPz_t hF hF3) hS3 hV ((pI_rowN hm h6).trans rfl) (fun s2 M4 hF4 hD4 hI4 => ?_) (fun s2 M4 hF4 hi4 h14 hI4 => ?_)
          · have hPV := pItem_V (t := t) hV
            rw [hI4] at hPV
            have hk1 : k = (119 - m0) + 1 := by omega
            refine ih (119 - m0) (by omega) (m0 + 1) s2 M4 (by omega) (by omega) (by have : s.1 < s2.1 := hPV.2 rfl; omega) hF4 hD4 hPV.1 ?_
            rw [hq, hk1, pRd_yes hK0 (by rw [hI4]), hI4]
          · have hk1 : k = (119 - m0) + 1 := by omega
            exact ly_rdX hT (by omega) hF4 hi4 h14 (by rw [hq, hk1, pRd_no hK0 (by rw [hI4]), hI4]) rfl rfl
    · have hK0 : tkK n t s.1 ≠ 0 := fun z => by rw [mtk_0 z] at hm; omega
      have hm120 : m0 < 120 := by
        have q := tok_TF (n := n) (t := t) hV.1
        have := q.2.2.2.2 hK0
        have := tkE_in (n := n) (t := t) hV.1
        omega
      refine G_aload_n dX10_reads_54 rfl rfl ?_
      refine G_getI (v := (nI 2)) dX10_reads_55 fX10_106 rfl rfl (hD.1.2.2.trans (by rw [hm])) ?_
      refine Gn_if_eq (tgt := 176) dX10_reads_58 (by decide) (by omega) (fun h58 => ?_) (fun h58 => ?_)
      · omega
      · refine G_aload_n dX10_reads_61 rfl rfl ?_
        refine G_getI (v := (nI 2)) dX10_reads_62 fX10_106 rfl rfl (hD.1.2.2.trans (by rw [hm])) ?_
        refine G_swIn (tgt := 107) dX10_reads_65 (by decide) (by decide) rfl (by decide) ?_
        refine G_aload_n dX10_reads_107 rfl rfl ?_
        refine G_iconst (v := (nI 4)) dX10_reads_108 (by decide) ?_
        refine G_iconst (v := (nI 1)) dX10_reads_109 (by decide) ?_
        refine G_callVv (ν := uX10_readsOf) (As := [.inl (nI 4), .inl (nI 1)]) dX10_reads_110 nX10_130 kX10_readsOf rfl rfl rfl rfl rfl (Nat.le_of_ble_eq_true rfl) (y_readsOf (first := 4) (hh := 1) hT1 hV hD (by omega)) ?_
        rintro _ M3 ⟨hF3, hS3⟩
        refine G_goto (tgt := 152) dX10_reads_113 (by decide) ?_
        refine ly_rd2 hT (FPz_t hF hF3) hS3 (pOf_V hV (Or.inl ⟨rfl, rfl⟩)).1 (pI_way hm) (fun s2 M4 hF4 hD4 hI4 => ?_) (fun s2 M4 hF4 hi4 h14 hI4 => ?_)
        · have hPV := pItem_V (t := t) hV
          rw [hI4] at hPV
          have hk1 : k = (119 - m0) + 1 := by omega
          refine ih (119 - m0) (by omega) (m0 + 1) s2 M4 (by omega) (by omega) (by have : s.1 < s2.1 := hPV.2 rfl; omega) hF4 hD4 hPV.1 ?_
          rw [hq, hk1, pRd_yes hK0 (by rw [hI4]), hI4]
        · have hk1 : k = (119 - m0) + 1 := by omega
          exact ly_rdX hT (by omega) hF4 hi4 h14 (by rw [hq, hk1, pRd_no hK0 (by rw [hI4]), hI4]) rfl rfl
    · have hK0 : tkK n t s.1 ≠ 0 := fun z => by rw [mtk_0 z] at hm; omega
      have hm120 : m0 < 120 := by
        have q := tok_TF (n := n) (t := t) hV.1
        have := q.2.2.2.2 hK0
        have := tkE_in (n := n) (t := t) hV.1
        omega
      refine G_aload_n dX10_reads_54 rfl rfl ?_
      refine G_getI (v := (nI 3)) dX10_reads_55 fX10_106 rfl rfl (hD.1.2.2.trans (by rw [hm])) ?_
      refine Gn_if_eq (tgt := 176) dX10_reads_58 (by decide) (by omega) (fun h58 => ?_) (fun h58 => ?_)
      · omega
      · refine G_aload_n dX10_reads_61 rfl rfl ?_
        refine G_getI (v := (nI 3)) dX10_reads_62 fX10_106 rfl rfl (hD.1.2.2.trans (by rw [hm])) ?_
        refine G_swIn (tgt := 116) dX10_reads_65 (by decide) (by decide) rfl (by decide) ?_
        refine G_aload_n dX10_reads_116 rfl rfl ?_
        refine G_bipush (v := (nI 8)) dX10_reads_117 (by decide) ?_
        refine G_bipush (v := (nI 9)) dX10_reads_119 (by decide) ?_
        refine G_callVv (ν := uX10_readsOf) (As := [.inl (nI 8), .inl (nI 9)]) dX10_reads_121 nX10_130 kX10_readsOf rfl rfl rfl rfl rfl (Nat.le_of_ble_eq_true rfl) (y_readsOf (first := 8) (hh := 9) hT1 hV hD (by omega)) ?_
        rintro _ M3 ⟨hF3, hS3⟩
        refine G_goto (tgt := 152) dX10_reads_124 (by decide) ?_
        refine ly_rd2 hT (FPz_t hF hF3) hS3 (pOf_V hV (Or.inr ⟨rfl, rfl⟩)).1 (pI_rank hm) (fun s2 M4 hF4 hD4 hI4 => ?_) (fun s2 M4 hF4 hi4 h14 hI4 => ?_)
        · have hPV := pItem_V (t := t) hV
          rw [hI4] at hPV
          have hk1 : k = (119 - m0) + 1 := by omega
          refine ih (119 - m0) (by omega) (m0 + 1) s2 M4 (by omega) (by omega) (by have : s.1 < s2.1 := hPV.2 rfl; omega) hF4 hD4 hPV.1 ?_
          rw [hq, hk1, pRd_yes hK0 (by rw [hI4]), hI4]
        · have hk1 : k = (119 - m0) + 1 := by omega
          exact ly_rdX hT (by omega) hF4 hi4 h14 (by rw [hq, hk1, pRd_no hK0 (by rw [hI4]), hI4]) rfl rfl
    · have hK0 : tkK n t s.1 ≠ 0 := fun z => by rw [mtk_0 z] at hm; omega
      have hm120 : m0 < 120 := by
        have q := tok_TF (n := n) (t := t) hV.1
        have := q.2.2.2.2 hK0
        have := tkE_in (n := n) (t := t) hV.1
        omega
      refine G_aload_n dX10_reads_54 rfl rfl ?_
      refine G_getI (v := (nI 4)) dX10_reads_55 fX10_106 rfl rfl (hD.1.2.2.trans (by rw [hm])) ?_
      refine Gn_if_eq (tgt := 176) dX10_reads_58 (by decide) (by omega) (fun h58 => ?_) (fun h58 => ?_)
      · omega
      · refine G_aload_n dX10_reads_61 rfl rfl ?_
        refine G_getI (v := (nI 4)) dX10_reads_62 fX10_106 rfl rfl (hD.1.2.2.trans (by rw [hm])) ?_
        refine G_swIn (tgt := 127) dX10_reads_65 (by decide) (by decide) rfl (by decide) ?_
        refine G_aload_n dX10_reads_127 rfl rfl ?_
        refine G_iconst (v := (nI 2)) dX10_reads_128 (by decide) ?_
        refine G_iconst (v := (nI 1)) dX10_reads_129 (by decide) ?_
        refine G_iconst (v := (nI 5)) dX10_reads_130 (by decide) ?_
        refine G_callVv (ν := uX10_readsOne) (As := [.inl (nI 2), .inl (nI 1), .inl (nI 5)]) dX10_reads_131 nX10_134 kX10_readsOne rfl rfl rfl rfl rfl (Nat.le_of_ble_eq_true rfl) (y_readsOne (ix := 2) (lo := 1) (hi3 := 5) hT1 hV hD (by omega)) ?_
        rintro _ M3 ⟨hF3, hS3⟩
        refine G_goto (tgt := 152) dX10_reads_134 (by decide) ?_
        refine ly_rd2 hT (FPz_t hF hF3) hS3 (pVal_V (s := (tkE n t s.1, s.2)) ⟨(tkE_in hV.1).1, hV.2⟩ (by omega)).1 (pI_most hm) (fun s2 M4 hF4 hD4 hI4 => ?_) (fun s2 M4 hF4 hi4 h14 hI4 => ?_)
        · have hPV := pItem_V (t := t) hV
          rw [hI4] at hPV
          have hk1 : k = (119 - m0) + 1 := by omega
          refine ih (119 - m0) (by omega) (m0 + 1) s2 M4 (by omega) (by omega) (by have : s.1 < s2.1 := hPV.2 rfl; omega) hF4 hD4 hPV.1 ?_
          rw [hq, hk1, pRd_yes hK0 (by rw [hI4]), hI4]
        · have hk1 : k = (119 - m0) + 1 := by omega
          exact ly_rdX hT (by omega) hF4 hi4 h14 (by rw [hq, hk1, pRd_no hK0 (by rw [hI4]), hI4]) rfl rfl
    · have hK0 : tkK n t s.1 ≠ 0 := fun z => by rw [mtk_0 z] at hm; omega
      have hm120 : m0 < 120 := by
        have q := tok_TF (n := n) (t := t) hV.1
        have := q.2.2.2.2 hK0
        have := tkE_in (n := n) (t := t) hV.1
        omega
      refine G_aload_n dX10_reads_54 rfl rfl ?_
      refine G_getI (v := (nI 5)) dX10_reads_55 fX10_106 rfl rfl (hD.1.2.2.trans (by rw [hm])) ?_
      refine Gn_if_eq (tgt := 176) dX10_reads_58 (by decide) (by omega) (fun h58 => ?_) (fun h58 => ?_)
      · omega
      · refine G_aload_n dX10_reads_61 rfl rfl ?_
        refine G_getI (v := (nI 5)) dX10_reads_62 fX10_106 rfl rfl (hD.1.2.2.trans (by rw [hm])) ?_
        refine G_swIn (tgt := 137) dX10_reads_65 (by decide) (by decide) rfl (by decide) ?_
        refine G_aload_n dX10_reads_137 rfl rfl ?_
        refine G_iconst (v := (nI 3)) dX10_reads_138 (by decide) ?_
        refine G_iconst (v := (nI 0)) dX10_reads_139 (by decide) ?_
        refine G_iconst (v := (nI 2)) dX10_reads_140 (by decide) ?_
        refine G_callVv (ν := uX10_readsOne) (As := [.inl (nI 3), .inl (nI 0), .inl (nI 2)]) dX10_reads_141 nX10_134 kX10_readsOne rfl rfl rfl rfl rfl (Nat.le_of_ble_eq_true rfl) (y_readsOne (ix := 3) (lo := 0) (hi3 := 2) hT1 hV hD (by omega)) ?_
        rintro _ M3 ⟨hF3, hS3⟩
        refine G_goto (tgt := 152) dX10_reads_144 (by decide) ?_
        refine ly_rd2 hT (FPz_t hF hF3) hS3 (pVal_V (s := (tkE n t s.1, s.2)) ⟨(tkE_in hV.1).1, hV.2⟩ (by omega)).1 (pI_pull hm) (fun s2 M4 hF4 hD4 hI4 => ?_) (fun s2 M4 hF4 hi4 h14 hI4 => ?_)
        · have hPV := pItem_V (t := t) hV
          rw [hI4] at hPV
          have hk1 : k = (119 - m0) + 1 := by omega
          refine ih (119 - m0) (by omega) (m0 + 1) s2 M4 (by omega) (by omega) (by have : s.1 < s2.1 := hPV.2 rfl; omega) hF4 hD4 hPV.1 ?_
          rw [hq, hk1, pRd_yes hK0 (by rw [hI4]), hI4]
        · have hk1 : k = (119 - m0) + 1 := by omega
          exact ly_rdX hT (by omega) hF4 hi4 h14 (by rw [hq, hk1, pRd_no hK0 (by rw [hI4]), hI4]) rfl rfl
    · have hK0 : tkK n t s.1 ≠ 0 := fun z => by rw [mtk_0 z] at hm; omega
      have hm120 : m0 < 120 := by
        have q := tok_TF (n := n) (t := t) hV.1
        have := q.2.2.2.2 hK0
        have := tkE_in (n := n) (t := t) hV.1
        omega
      refine G_aload_n dX10_reads_54 rfl rfl ?_
      refine G_getI (v := (nI 6)) dX10_reads_55 fX10_106 rfl rfl (hD.1.2.2.trans (by rw [hm])) ?_
      refine Gn_if_eq (tgt := 176) dX10_reads_58 (by decide) (by omega) (fun h58 => ?_) (fun h58 => ?_)
      · omega
      · refine G_aload_n dX10_reads_61 rfl rfl ?_
        refine G_getI (v := (nI 6)) dX10_reads_62 fX10_106 rfl rfl (hD.1.2.2.trans (by rw [hm])) ?_
        refine G_swOut (tgt := 147) dX10_reads_65 (by decide) (by decide) ?_
        refine G_aload_n dX10_reads_147 rfl rfl ?_
        refine G_iconst (v := (nI 0)) dX10_reads_148 (by decide) ?_
        refine G_callVv (ν := uX10_takes) (As := [.inl (nI 0)]) dX10_reads_149 nX10_119 kX10_takes rfl rfl rfl rfl rfl (Nat.le_of_ble_eq_true rfl) (y_takes_f hD.1 hD.2.1) ?_
        rintro _ M4 rfl
        have hF3 : FPz M1 (ms M1 50 14 (nI (tkS n t s.1))) := FPz_14 FPz_r
        refine ly_rd2 (p := (false, s)) hT (FPz_t hF hF3) (STm_f (TK_14 hD.1) (by rw [ms_o]; exact upd_k)) hV ((pI_no (by omega)).trans rfl) (fun s2 M4 hF4 hD4 hI4 => ?_) (fun s2 M4 hF4 hi4 h14 hI4 => ?_)
        · have hPV := pItem_V (t := t) hV
          rw [hI4] at hPV
          have hk1 : k = (119 - m0) + 1 := by omega
          refine ih (119 - m0) (by omega) (m0 + 1) s2 M4 (by omega) (by omega) (by have : s.1 < s2.1 := hPV.2 rfl; omega) hF4 hD4 hPV.1 ?_
          rw [hq, hk1, pRd_yes hK0 (by rw [hI4]), hI4]
        · have hk1 : k = (119 - m0) + 1 := by omega
          exact ly_rdX hT (by omega) hF4 hi4 h14 (by rw [hq, hk1, pRd_no hK0 (by rw [hI4]), hI4]) rfl rfl
    · have hK0 : tkK n t s.1 ≠ 0 := fun z => by rw [mtk_0 z] at hm; omega
      have hm120 : m0 < 120 := by
        have q := tok_TF (n := n) (t := t) hV.1
        have := q.2.2.2.2 hK0
        have := tkE_in (n := n) (t := t) hV.1
        omega
      refine G_aload_n dX10_reads_54 rfl rfl ?_
      refine G_getI (v := (nI 7)) dX10_reads_55 fX10_106 rfl rfl (hD.1.2.2.trans (by rw [hm])) ?_
      refine Gn_if_eq (tgt := 176) dX10_reads_58 (by decide) (by omega) (fun h58 => ?_) (fun h58 => ?_)
      · omega
      · refine G_aload_n dX10_reads_61 rfl rfl ?_
        refine G_getI (v := (nI 7)) dX10_reads_62 fX10_106 rfl rfl (hD.1.2.2.trans (by rw [hm])) ?_
        refine G_swOut (tgt := 147) dX10_reads_65 (by decide) (by decide) ?_
        refine G_aload_n dX10_reads_147 rfl rfl ?_
        refine G_iconst (v := (nI 0)) dX10_reads_148 (by decide) ?_
        refine G_callVv (ν := uX10_takes) (As := [.inl (nI 0)]) dX10_reads_149 nX10_119 kX10_takes rfl rfl rfl rfl rfl (Nat.le_of_ble_eq_true rfl) (y_takes_f hD.1 hD.2.1) ?_
        rintro _ M4 rfl
        have hF3 : FPz M1 (ms M1 50 14 (nI (tkS n t s.1))) := FPz_14 FPz_r
        refine ly_rd2 (p := (false, s)) hT (FPz_t hF hF3) (STm_f (TK_14 hD.1) (by rw [ms_o]; exact upd_k)) hV ((pI_no (by omega)).trans rfl) (fun s2 M4 hF4 hD4 hI4 => ?_) (fun s2 M4 hF4 hi4 h14 hI4 => ?_)
        · have hPV := pItem_V (t := t) hV
          rw [hI4] at hPV
          have hk1 : k = (119 - m0) + 1 := by omega
          refine ih (119 - m0) (by omega) (m0 + 1) s2 M4 (by omega) (by omega) (by have : s.1 < s2.1 := hPV.2 rfl; omega) hF4 hD4 hPV.1 ?_
          rw [hq, hk1, pRd_yes hK0 (by rw [hI4]), hI4]
        · have hk1 : k = (119 - m0) + 1 := by omega
          exact ly_rdX hT (by omega) hF4 hi4 h14 (by rw [hq, hk1, pRd_no hK0 (by rw [hI4]), hI4]) rfl rfl
    · have hK0 : tkK n t s.1 ≠ 0 := fun z => by rw [mtk_0 z] at hm; omega
      have hm120 : m0 < 120 := by
        have q := tok_TF (n := n) (t := t) hV.1
        have := q.2.2.2.2 hK0
        have := tkE_in (n := n) (t := t) hV.1
        omega
      refine G_aload_n dX10_reads_54 rfl rfl ?_
      refine G_getI (v := (nI 8)) dX10_reads_55 fX10_106 rfl rfl (hD.1.2.2.trans (by rw [hm])) ?_
      refine Gn_if_eq (tgt := 176) dX10_reads_58 (by decide) (by omega) (fun h58 => ?_) (fun h58 => ?_)
      · omega
      · refine G_aload_n dX10_reads_61 rfl rfl ?_
        refine G_getI (v := (nI 8)) dX10_reads_62 fX10_106 rfl rfl (hD.1.2.2.trans (by rw [hm])) ?_
        refine G_swOut (tgt := 147) dX10_reads_65 (by decide) (by decide) ?_
        refine G_aload_n dX10_reads_147 rfl rfl ?_
        refine G_iconst (v := (nI 0)) dX10_reads_148 (by decide) ?_
        refine G_callVv (ν := uX10_takes) (As := [.inl (nI 0)]) dX10_reads_149 nX10_119 kX10_takes rfl rfl rfl rfl rfl (Nat.le_of_ble_eq_true rfl) (y_takes_f hD.1 hD.2.1) ?_
        rintro _ M4 rfl
        have hF3 : FPz M1 (ms M1 50 14 (nI (tkS n t s.1))) := FPz_14 FPz_r
        refine ly_rd2 (p := (false, s)) hT (FPz_t hF hF3) (STm_f (TK_14 hD.1) (by rw [ms_o]; exact upd_k)) hV ((pI_no (by omega)).trans rfl) (fun s2 M4 hF4 hD4 hI4 => ?_) (fun s2 M4 hF4 hi4 h14 hI4 => ?_)
        · have hPV := pItem_V (t := t) hV
          rw [hI4] at hPV
          have hk1 : k = (119 - m0) + 1 := by omega
          refine ih (119 - m0) (by omega) (m0 + 1) s2 M4 (by omega) (by omega) (by have : s.1 < s2.1 := hPV.2 rfl; omega) hF4 hD4 hPV.1 ?_
          rw [hq, hk1, pRd_yes hK0 (by rw [hI4]), hI4]
        · have hk1 : k = (119 - m0) + 1 := by omega
          exact ly_rdX hT (by omega) hF4 hi4 h14 (by rw [hq, hk1, pRd_no hK0 (by rw [hI4]), hI4]) rfl rfl
theorem ly_rdZ {d n : Nat} {t : Nat → Nat} {M : Mem} (hT : TBm n t M) : ∀ k k0 : Nat, 60 - k0 = k → k0 ≤ 60 → G l α D cA uX10_reads none (d + 7) (RQ n t M) 2 [some (.inr 50), some (.inl (nI k0))] [] (mo M 52 (fil (M 52) k0 (nI 0))) := by
  intro k
  induction k using Nat.strongRecOn with
  | _ k ih => ?_
  intro k0 hkk hk0
  refine G_iload_n dX10_reads_2 rfl rfl ?_
  refine G_bipush (v := (nI 60)) dX10_reads_3 (by decide) ?_
  refine Gn_icmp_ge (tgt := 21) dX10_reads_5 (by decide) (by omega) (by omega) (fun h5 => ?_) (fun h5 => ?_)
  · refine G_aload_n dX10_reads_21 rfl rfl ?_
    refine G_getR (j := 52) dX10_reads_22 fX10_13 rfl rfl ?_
    refine G_iconst (v := (nI 2)) dX10_reads_25 (by decide) ?_
    refine G_iconst (v := (nI 3)) dX10_reads_26 (by decide) ?_
    refine G_iast (k := 2) (v := (nI 3)) dX10_reads_27 rfl (vp_in_nI (by decide) (by decide)) rfl rfl ?_
    refine G_aload_n dX10_reads_28 rfl rfl ?_
    refine G_bipush (v := ((-9))) dX10_reads_29 (by decide) ?_
    refine G_put dX10_reads_31 pX10_113 rfl rfl ?_
    refine G_aload_n dX10_reads_34 rfl rfl ?_
    refine G_iconst (v := (nI 0)) dX10_reads_35 (by decide) ?_
    refine G_put dX10_reads_36 pX10_92 rfl rfl ?_
    refine G_aload_n dX10_reads_39 rfl rfl ?_
    refine G_callVv (ν := uX10_steps) (As := []) dX10_reads_40 nX10_116 kX10_steps rfl rfl rfl rfl rfl (Nat.le_of_ble_eq_true rfl) (y_tok (n := n) (t := t) (i := 0) (by unfold TBm; rw [ms_o, upd_n (by decide), ms_o, upd_n (by decide), ms_q (by decide), mo_q (by decide), ms_q (by decide), ms_q (by decide), ms_q (by decide), mo_q (by decide)]; exact hT) (Nat.zero_le _) (by rw [ms_o]; exact upd_k)) ?_
    rintro _ M2 ⟨hF2, hK2⟩
    refine G_iconst (v := (nI 0)) dX10_reads_43 (by decide) ?_
    refine G_istore_n (L2 := [some (.inr 50), some (.inl (nI 0))]) dX10_reads_44 rfl (Nat.le_of_ble_eq_true rfl) rfl ?_
    have e : k0 = 60 := by omega
    subst e
    refine ly_rdL hT _ 0 (0, gS, 0) M2 rfl (by decide) (Nat.le_refl _) ⟨fun q a b => by rw [hF2.1 q a, ms_q a, ms_q a, ms_q b, mo_q b], fun j hj => by rw [hF2.2 j (by omega) (by omega) (by omega), ms_o, upd_n (by omega), ms_o, upd_n (by omega), ms_q (by decide), mo_q (by decide)]⟩ ⟨hK2, ?_, ?_⟩ ⟨Nat.zero_le _, PG_0⟩ rfl
    · rw [hF2.2 14 (by decide) (by decide) (by decide), ms_o, upd_n (by decide), ms_o]; exact upd_k
    · rw [hF2.1 52 (by decide), ms_q (by decide), ms_q (by decide), ms_o, mo_o]
      refine ⟨by rw [upd_n (by decide), fil_in (by decide)]; rfl, by rw [upd_n (by decide), fil_in (by decide)], fun j j1 j2 => ?_, fun z => absurd rfl z⟩
      by_cases e : j = 2
      · subst e; rw [upd_k]; rfl
      · rw [upd_n e, fil_in (by omega)]
        show nI 0 = nI (gS j)
        unfold gS
        rw [if_neg (by omega), if_neg (by omega), if_neg (by omega)]
  · refine G_aload_n dX10_reads_8 rfl rfl ?_
    refine G_getR (j := 52) dX10_reads_9 fX10_13 rfl rfl ?_
    refine G_iload_n dX10_reads_12 rfl rfl ?_
    refine G_iconst (v := (nI 0)) dX10_reads_13 (by decide) ?_
    refine G_iast (k := k0) (v := (nI 0)) dX10_reads_14 rfl (vp_in_nI (by omega) (by omega)) (nI_clamp (by omega)) rfl ?_
    refine G_iinc (v := (nI (k0 + 1))) (L2 := [some (.inr 50), some (.inl (nI (k0 + 1)))]) dX10_reads_15 rfl (nI_1 _) rfl ?_
    refine G_goto (tgt := 2) dX10_reads_18 (by decide) ?_
    rw [fil_s]
    exact ih (60 - (k0 + 1)) (by omega) (k0 + 1) rfl (by omega)
theorem y_reads {d n : Nat} {t : Nat → Nat} {M : Mem} (hT : TBm n t M) : Call l α D cA uX10_reads (d + 7) [.inr 50] M (RQ n t M) := by
  refine Call.of kX10_reads.1 (Nat.le_of_ble_eq_true rfl) ?_
  refine G_iconst (v := (nI 0)) dX10_reads_0 (by decide) ?_
  refine G_istore_n (L2 := [some (.inr 50), some (.inl (nI 0))]) dX10_reads_1 rfl (Nat.le_of_ble_eq_true rfl) rfl ?_
  have h := ly_rdZ (l := l) (α := α) (D := D) (cA := cA) (d := d) hT 60 0 rfl (by decide)
  rw [fil_0, mo_self] at h
  exact h
theorem YR_clear {s : AS} {M : Mem} (h : YR s M) : YR ((0, s.1.2), s.2) (ms M 50 10 (nI 0)) := by
  obtain ⟨hok, hs, hPA, hKE, hFA, hTB⟩ := h
  refine ⟨hok, ?_, ?_, ?_, ?_, ?_, Nat.zero_le _, fun i hi => absurd hi (Nat.not_lt_zero _)⟩
  · rw [ms_q (by decide)]; exact hs
  · unfold PAm at *; rw [ms_o, upd_n (by decide), ms_q (by decide)]; exact hPA
  · unfold KEm at *; rw [ms_q (by decide), ms_q (by decide)]; exact hKE
  · unfold FAm at *; rw [ms_o, upd_n (by decide), ms_q (by decide)]; exact hFA
  · rw [ms_o]; exact upd_k
theorem DR_hS {g : Nat → Nat} {r : Nat} {f : Nat → Int32} (h : DR g r f) (hP : PG r g) (hr : r ≠ 0) : hS g f := by
  obtain ⟨a, b, c, e⟩ := h
  have h1 := hP.2.2.2.1 hr
  refine ⟨fun i hi => ?_, fun k hk => e hr k (by rw [← h1]; exact hk)⟩
  rcases (show i = 0 ∨ i = 1 ∨ 2 ≤ i by omega) with z | z | z
  · subst z; rw [a, if_neg hr]
  · subst z; rw [b, h1]
  · exact c i z hi
theorem FPz_Y {M M1 : Mem} (h : FPz M M1) : FY M M1 := ⟨fun q a b => h.1 q b (by omega), fun j a => h.2 j (by omega)⟩
theorem ly_tells {d : Nat} {s : AS} {M M2 Ma : Mem} (hY2 : YR s M2) (hq2 : ∀ q, q < 50 → M2 q = M q) (hok : ¬ ((pT s).1 = false ∨ (pT s).2.2.2.2 = 0)) (hDR : DR (pT s).2.2.2.1 (pT s).2.2.2.2 (M2 52)) (hV : PV s.1.1 (pT s).2.2) (hFa : FNt M2 Ma) (hPa : PAm (min (s.2.2.1.1 + 1) 6) (hCons s.2.1 s.2.2.1.2) Ma) : ∀ (k k0 : Nat) (M1 : Mem), 60 - k0 = k → k0 ≤ 60 → (∀ q, q ≠ 51 → M1 q = Ma q) → (∀ j, j < k0 → M1 51 j = M2 52 j) → G l α D cA uX10_tells none (d + 8) (PY M (nTells s)) 33 [some (.inr 50), some (.inl (nI ((pT s).2.1))), some (.inl (nI k0))] [] M1 := by
  have hr0 : (pT s).2.2.2.2 ≠ 0 := fun e => hok (Or.inr e)
  have hgk : gok (pT s).2.2.2.1 := PG_gok hV.2 hr0
  intro k
  induction k using Nat.strongRecOn with
  | _ k ih => ?_
  intro k0 M1 hkk hk0 hF hC
  refine G_iload_n dX10_tells_33 rfl rfl ?_
  refine G_bipush (v := (nI 60)) dX10_tells_34 (by decide) ?_
  refine Gn_icmp_ge (tgt := 57) dX10_tells_36 (by decide) (by omega) (by omega) (fun h36 => ?_) (fun h36 => ?_)
  · refine G_aload_n dX10_tells_57 rfl rfl ?_
    refine G_iconst (v := (nI 0)) dX10_tells_58 (by decide) ?_
    refine G_put dX10_tells_59 pX10_89 rfl rfl ?_
    refine G_iload_n dX10_tells_62 rfl rfl ?_
    refine G_iret dX10_tells_63 rfl rfl ?_
    have e : k0 = 60 := by omega
    subst e
    rw [nTells, if_neg hok]
    refine PY_r (YR_clear (YR_push hY2 hgk hFa hPa hF (hS_cong hgk (DR_hS hDR hV.2 hr0) hC))) (fun q hq => ?_)
    rw [ms_q (by omega), hF q (by omega), hFa.1 q (by omega) (by omega)]
    exact hq2 q hq
  · refine G_aload_n dX10_tells_39 rfl rfl ?_
    refine G_getR (j := 51) dX10_tells_40 fX10_7 rfl rfl ?_
    refine G_iload_n dX10_tells_43 rfl rfl ?_
    refine G_aload_n dX10_tells_44 rfl rfl ?_
    refine G_getR (j := 52) dX10_tells_45 fX10_13 rfl rfl ?_
    refine G_iload_n dX10_tells_48 rfl rfl ?_
    refine G_iald (k := k0) (v := (M2 52 k0)) dX10_tells_49 rfl (vp_in_nI (by omega) (by omega)) (nI_clamp (by omega)) (by rw [hF 52 (by decide), hFa.1 52 (by decide) (by decide)]) ?_
    refine G_iast (k := k0) (v := (M2 52 k0)) dX10_tells_50 rfl (vp_in_nI (by omega) (by omega)) (nI_clamp (by omega)) rfl ?_
    refine G_iinc (v := (nI (k0 + 1))) (L2 := [some (.inr 50), some (.inl (nI ((pT s).2.1))), some (.inl (nI (k0 + 1)))]) dX10_tells_51 rfl (nI_1 _) rfl ?_
    refine G_goto (tgt := 33) dX10_tells_54 (by decide) ?_
    refine ih (60 - (k0 + 1)) (by omega) (k0 + 1) _ rfl (by omega) (fun q a => by rw [ms_q a]; exact hF q a) (fun j hj => ?_)
    rw [ms_o]
    by_cases e : j = k0
    · subst e; exact upd_k
    · rw [upd_n e]; exact hC j (by omega)
theorem y_tells {d : Nat} {s : AS} {M : Mem} (hY : YR s M) : Call l α D cA uX10_tells (d + 8) [.inr 50] M (PY M (nTells s)) := by
  refine Call.of kX10_tells.1 (Nat.le_of_ble_eq_true rfl) ?_
  refine G_aload_n dX10_tells_0 rfl rfl ?_
  refine G_iconst (v := (nI 0)) dX10_tells_1 (by decide) ?_
  refine G_put dX10_tells_2 pX10_81 rfl rfl ?_
  have hF0 : FY M (ms M 50 0 (nI 0)) := FY_0
  generalize ms M 50 0 (nI 0) = M0 at hF0 ⊢
  have hY0 := YR_Y hY hF0
  obtain ⟨hok0, hs, hPA, hKE, hFA, hTB⟩ := id hY0
  have hk := hok0.1
  have hq0 := FY_50 hF0
  refine G_aload_n dX10_tells_5 rfl rfl ?_
  refine G_callVi (ν := uX10_reads) (As := []) dX10_tells_6 nX10_138 kX10_reads rfl rfl rfl rfl rfl (Nat.le_of_ble_eq_true rfl) (y_reads hTB) ?_
  rintro r M2 ⟨hF2, hR2⟩
  have hY2 := YR_Y hY0 (FPz_Y hF2)
  have hq2 : ∀ q, q < 50 → M2 q = M q := fun q hq => (hF2.1 q (by omega) (by omega)).trans (hq0 q hq)
  have hn := hTB.2.1
  have hR2 := hR2 (pT s) rfl
  rcases hR2 with ⟨hf, h14, hin, v, rfl⟩ | ⟨hf, h14, rfl, hDR, hV⟩
  · skip
    refine G_istore_n (L2 := [some (.inr 50), some (.inl v), none]) dX10_tells_9 rfl (Nat.le_of_ble_eq_true rfl) rfl ?_
    refine G_aload_n dX10_tells_10 rfl rfl ?_
    refine G_getI (v := (nI (tkS s.1.1 s.1.2 (pT s).2.2.1))) dX10_tells_11 fX10_113 rfl rfl h14 ?_
    refine G_bipush (v := ((-9))) dX10_tells_14 (by decide) ?_
    refine G_icmp_eq (tgt := 27) dX10_tells_16 (by decide) (fun h16 => ?_) (fun h16 => ?_)
    · exact absurd h16 (no9 (tkS_lt hin hn))
    · refine G_bipush (v := ((-10))) dX10_tells_19 (by decide) ?_
      refine G_aload_n dX10_tells_21 rfl rfl ?_
      refine G_getI (v := (nI (tkS s.1.1 s.1.2 (pT s).2.2.1))) dX10_tells_22 fX10_113 rfl rfl h14 ?_
      refine G_isub (v := (-10 - nI (tkS s.1.1 s.1.2 (pT s).2.2.1))) dX10_tells_25 rfl ?_
      refine G_iret dX10_tells_26 rfl rfl ?_
      rw [nTells, if_pos hf]
      exact PY_r hY2 hq2
  · have hs2 := hY2.2.1
    have hPA2 := hY2.2.2.1
    refine G_istore_n (L2 := [some (.inr 50), some (.inl (nI ((pT s).2.1))), none]) dX10_tells_9 rfl (Nat.le_of_ble_eq_true rfl) rfl ?_
    refine G_aload_n dX10_tells_10 rfl rfl ?_
    refine G_getI (v := ((-9))) dX10_tells_11 fX10_113 rfl rfl h14 ?_
    refine G_bipush (v := ((-9))) dX10_tells_14 (by decide) ?_
    refine G_icmp_eq (tgt := 27) dX10_tells_16 (by decide) (fun h16 => ?_) (fun h16 => ?_)
    · refine G_aload_n dX10_tells_27 rfl rfl ?_
      refine G_callVv (ν := uX10_notes) (As := []) dX10_tells_28 nX10_141 kX10_notes rfl rfl rfl rfl rfl (Nat.le_of_ble_eq_true rfl) (y_notes hs2 hok0.1 hok0.2.1 hPA2) ?_
      rintro _ Ma ⟨hFa, hPa⟩
      refine G_iconst (v := (nI 0)) dX10_tells_31 (by decide) ?_
      refine G_istore_n (L2 := [some (.inr 50), some (.inl (nI ((pT s).2.1))), some (.inl (nI 0))]) dX10_tells_32 rfl (Nat.le_of_ble_eq_true rfl) rfl ?_
      exact ly_tells hY2 hq2 hf hDR hV hFa hPa _ 0 Ma rfl (Nat.zero_le _) (fun _ _ => rfl) (fun j hj => absurd hj (Nat.not_lt_zero _))
    · exact absurd rfl h16
end P43
