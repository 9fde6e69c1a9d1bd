/-! The reference (SewnFieldsModel): cells and places -/
section P28
variable {l : Launch} {α : Nat → Nat} {D : va_G} {cA : Nat → ClassId}
/-- the place of the cell of number c on a cloth of width w; and back -/
def pl (w c : Nat) : Nat := 8 * (c / w) + c % w
def nm (w p : Nat) : Nat := w * (p / 8) + p % 8
theorem pl_d {w c : Nat} (h1 : 1 ≤ w) (h8 : w ≤ 8) : pl w c % 8 = c % w ∧ pl w c / 8 = c / w ∧ c % w < w := by
  have := Nat.mod_lt c (show 0 < w by omega)
  unfold pl
  omega
theorem nm_pl {w c : Nat} (h1 : 1 ≤ w) (h8 : w ≤ 8) : nm w (pl w c) = c := by
  obtain ⟨a, b, -⟩ := pl_d (c := c) h1 h8
  unfold nm
  rw [a, b]
  exact Nat.div_add_mod c w
theorem nm_d {w p : Nat} (h : p % 8 < w) : nm w p / w = p / 8 ∧ nm w p % w = p % 8 := by
  unfold nm
  constructor
  · rw [Nat.mul_add_div (by omega), Nat.div_eq_of_lt h]
    rfl
  · rw [Nat.mul_add_mod, Nat.mod_eq_of_lt h]
theorem pl_nm {w p : Nat} (h : p % 8 < w) : pl w (nm w p) = p := by
  obtain ⟨a, b⟩ := nm_d h
  unfold pl
  rw [a, b]
  omega
theorem nm_lt {w h p : Nat} (h1 : p % 8 < w) (h2 : p / 8 < h) : nm w p < w * h := by
  unfold nm
  have : w * (p / 8 + 1) ≤ w * h := Nat.mul_le_mul_left w h2
  rw [Nat.mul_add] at this
  omega
theorem pl_in {w h c : Nat} (hc : c < w * h) : c / w < h := by
  rw [Nat.div_lt_iff_lt_mul (by rcases Nat.eq_zero_or_pos w with e | e; (subst e; simp at hc); exact e)]
  rw [Nat.mul_comm]
  exact hc
theorem pl_48 {w h c : Nat} (h1 : 1 ≤ w) (h8 : w ≤ 8) (h6 : h ≤ 6) (hc : c < w * h) : pl w c < 48 := by
  have a := pl_in hc
  have b := pl_d (c := c) h1 h8
  unfold pl
  omega
theorem pl_inj {w a b : Nat} (h1 : 1 ≤ w) (h8 : w ≤ 8) (e : pl w a = pl w b) : a = b := by
  rw [← nm_pl (c := a) h1 h8, e, nm_pl h1 h8]
theorem pl_lt {w a b : Nat} (h1 : 1 ≤ w) (h8 : w ≤ 8) (h : a < b) : pl w a < pl w b := by
  have x := pl_d (c := a) h1 h8
  have y := pl_d (c := b) h1 h8
  have z : a / w ≤ b / w := Nat.div_le_div_right (Nat.le_of_lt h)
  have u := Nat.div_add_mod a w
  have v := Nat.div_add_mod b w
  unfold pl
  rcases (show a / w < b / w ∨ a / w = b / w by omega) with q | q
  · omega
  · rw [q] at u
    omega
/-- the model's numbers hold the cloth g -/
def hS (g : Nat → Nat) (f : Nat → Int32) : Prop := (∀ i, i < 12 → f i = nI (g i)) ∧ ∀ c, c < g 0 * g 1 → f (12 + c) = nI (g (12 + pl (g 0) c))
theorem cel_48 {g : Nat → Nat} (hk : gok g) : g 0 * g 1 ≤ 48 := Nat.mul_le_mul hk.1.2 hk.2.1.2
theorem pl_g {g : Nat → Nat} (hk : gok g) {c : Nat} (hc : c < g 0 * g 1) : pl (g 0) c < 48 := pl_48 hk.1.1 hk.1.2 hk.2.1.2 hc
theorem cel_of {g : Nat → Nat} (hk : gok g) {p : Nat} (hp : p < 48) (h : g (12 + p) ≠ 0) : ∃ c, c < g 0 * g 1 ∧ pl (g 0) c = p := by
  have := (hk.2.2.2.2.2 p hp).2 h
  exact ⟨nm (g 0) p, nm_lt this.1 this.2, pl_nm this.1⟩
def bsd (w a b : Nat) : Prop := ∃ s, s < 4 ∧ nbr (pl w a) s = some (pl w b)
def sq (a b : Nat) : Nat := (a - b) * (a - b) + (b - a) * (b - a)
theorem sq_I : ∀ a, a < 8 → ∀ b, b < 8 → (nI a - nI b) * (nI a - nI b) = nI (sq a b) ∧ (sq a b = 0 ↔ a = b) ∧ (sq a b = 1 ↔ (a = b + 1 ∨ b = a + 1)) ∧ sq a b < 100 := by decide +kernel
theorem nbr_iff {p q : Nat} (hp : p < 48) (hq : q < 48) : (∃ s, s < 4 ∧ nbr p s = some q) ↔ sq (p % 8) (q % 8) + sq (p / 8) (q / 8) = 1 := by
  have key : ∀ p, p < 48 → ∀ q, q < 48 → (decide (nbr p 0 = some q) || decide (nbr p 1 = some q) || decide (nbr p 2 = some q) || decide (nbr p 3 = some q)) = decide (sq (p % 8) (q % 8) + sq (p / 8) (q / 8) = 1) := by decide +kernel
  have k := key p hp q hq
  constructor
  · rintro ⟨s, hs, e⟩
    apply of_decide_eq_true
    rw [← k]
    rcases (show s = 0 ∨ s = 1 ∨ s = 2 ∨ s = 3 by omega) with rfl | rfl | rfl | rfl <;> simp [e]
  · intro h
    rw [decide_eq_true h] at k
    simp only [Bool.or_eq_true, decide_eq_true_eq] at k
    rcases k with ((k | k) | k) | k
    · exact ⟨0, by decide, k⟩
    · exact ⟨1, by decide, k⟩
    · exact ⟨2, by decide, k⟩
    · exact ⟨3, by decide, k⟩
theorem bsd_iff {g : Nat → Nat} (hk : gok g) {a b : Nat} (ha : a < g 0 * g 1) (hb : b < g 0 * g 1) : bsd (g 0) a b ↔ sq (a % g 0) (b % g 0) + sq (a / g 0) (b / g 0) = 1 := by
  unfold bsd
  rw [nbr_iff (pl_g hk ha) (pl_g hk hb)]
  have x := pl_d (c := a) hk.1.1 hk.1.2
  have y := pl_d (c := b) hk.1.1 hk.1.2
  rw [x.1, x.2.1, y.1, y.2.1]
theorem dm_lt {g : Nat → Nat} (hk : gok g) {a : Nat} (ha : a < g 0 * g 1) : a % g 0 < 8 ∧ a / g 0 < 8 := by
  have x := pl_d (c := a) hk.1.1 hk.1.2
  have y := pl_in ha
  have := hk.1.2
  have := hk.2.1.2
  omega
theorem y_in {d : Nat} {a b c : Int32} {M : Mem} : Call l α D cA uX10_in d [.inl a, .inl b, .inl c] M (fun r M1 => r = .inl (bI (decide (b ≤ a ∧ a ≤ c))) ∧ M1 = M) := by
  refine Call.of kX10_in.1 (Nat.le_of_ble_eq_true rfl) ?_
  refine G_iload_n dX10_in_0 rfl rfl ?_
  refine G_iload_n dX10_in_1 rfl rfl ?_
  refine G_icmp_lt (tgt := 14) dX10_in_2 (by decide) (fun h2 => ?_) (fun h2 => ?_)
  · refine G_iconst (v := (nI 0)) dX10_in_14 (by decide) ?_
    refine G_iret dX10_in_15 rfl (by decide) ?_
    exact ⟨congrArg Sum.inl (bI_f (decide_eq_false (by grind))), rfl⟩
  · refine G_iload_n dX10_in_5 rfl rfl ?_
    refine G_iload_n dX10_in_6 rfl rfl ?_
    refine G_icmp_gt (tgt := 14) dX10_in_7 (by decide) (fun h7 => ?_) (fun h7 => ?_)
    · refine G_iconst (v := (nI 0)) dX10_in_14 (by decide) ?_
      refine G_iret dX10_in_15 rfl (by decide) ?_
      exact ⟨congrArg Sum.inl (bI_f (decide_eq_false (by grind))), rfl⟩
    · refine G_iconst (v := (nI 1)) dX10_in_10 (by decide) ?_
      refine G_goto (tgt := 15) dX10_in_11 (by decide) ?_
      refine G_iret dX10_in_15 rfl (by decide) ?_
      exact ⟨congrArg Sum.inl (bI_t (decide_eq_true (by grind))), rfl⟩
theorem y_inI {d lo hi : Nat} {x : Int32} {M : Mem} : Call l α D cA uX10_in d [.inl x, .inl (nI lo), .inl (nI hi)] M (fun r M1 => r = .inl (bI (dec (inI lo hi x))) ∧ M1 = M) :=
  y_in.mono (by rintro r M1 ⟨rfl, rfl⟩; exact ⟨by rw [dd]; rfl, rfl⟩)
theorem y_cells {d : Nat} {g : Nat → Nat} {M : Mem} (hs : hS g (M 51)) (hk : gok g) : Call l α D cA uX10_cells d [.inr 50] M (fun r M1 => r = .inl (nI (g 0 * g 1)) ∧ M1 = M) := by
  refine Call.of kX10_cells.1 (Nat.le_of_ble_eq_true rfl) ?_
  refine G_aload_n dX10_cells_0 rfl rfl ?_
  refine G_getR (j := 51) dX10_cells_1 fX10_7 rfl rfl ?_
  refine G_iconst (v := (nI 0)) dX10_cells_4 (by decide) ?_
  refine G_iald (k := 0) (v := (nI (g 0))) dX10_cells_5 rfl (vp_in_nI (by decide) (by decide)) rfl (hs.1 0 (by decide)) ?_
  refine G_aload_n dX10_cells_6 rfl rfl ?_
  refine G_getR (j := 51) dX10_cells_7 fX10_7 rfl rfl ?_
  refine G_iconst (v := (nI 1)) dX10_cells_10 (by decide) ?_
  refine G_iald (k := 1) (v := (nI (g 1))) dX10_cells_11 rfl (vp_in_nI (by decide) (by decide)) rfl (hs.1 1 (by decide)) ?_
  refine G_imul (v := (nI ((g 0) * (g 1)))) dX10_cells_12 (pk_mul _ _) ?_
  refine G_iret dX10_cells_13 rfl rfl ?_
  exact ⟨rfl, rfl⟩
theorem y_isCell {d : Nat} {g : Nat → Nat} {x y : Int32} {M : Mem} (hs : hS g (M 51)) (hk : gok g) : Call l α D cA uX10_isCell (d + 1) [.inr 50, .inl x, .inl y] M (fun r M1 => r = .inl (bI (hasD (g 0) (g 1) x y)) ∧ M1 = M) := by
  refine Call.of kX10_isCell.1 (Nat.le_of_ble_eq_true rfl) ?_
  have h1 := hk.1.1
  have h2 := hk.2.1.1
  refine G_iload_n dX10_isCell_0 rfl rfl ?_
  refine G_iconst (v := (nI 0)) dX10_isCell_1 (by decide) ?_
  refine G_aload_n dX10_isCell_2 rfl rfl ?_
  refine G_getR (j := 51) dX10_isCell_3 fX10_7 rfl rfl ?_
  refine G_iconst (v := (nI 0)) dX10_isCell_6 (by decide) ?_
  refine G_iald (k := 0) (v := (nI (g 0))) dX10_isCell_7 rfl (vp_in_nI (by decide) (by decide)) rfl (hs.1 0 (by decide)) ?_
  refine G_iconst (v := (nI 1)) dX10_isCell_8 (by decide) ?_
  refine G_isub (v := (nI ((g 0) - 1))) dX10_isCell_9 (pk_sub (by omega)) ?_
  refine G_callSi (ν := uX10_in) (As := [.inl x, .inl (nI 0), .inl (nI ((g 0) - 1))]) dX10_isCell_10 nX10_85 kX10_in rfl rfl rfl (Nat.le_of_ble_eq_true rfl) (y_in) ?_
  rintro _ M8 ⟨rfl, e9⟩
  subst M8
  refine Gb_if_eq (tgt := 36) dX10_isCell_13 (by decide) (fun h13 => ?_) (fun h13 => ?_)
  · refine G_iconst (v := (nI 0)) dX10_isCell_36 (by decide) ?_
    refine G_iret dX10_isCell_37 rfl (by decide) ?_
    exact ⟨congrArg Sum.inl (bI_f (by unfold hasD; rw [h13]; rfl)), rfl⟩
  · refine G_iload_n dX10_isCell_16 rfl rfl ?_
    refine G_iconst (v := (nI 0)) dX10_isCell_17 (by decide) ?_
    refine G_aload_n dX10_isCell_18 rfl rfl ?_
    refine G_getR (j := 51) dX10_isCell_19 fX10_7 rfl rfl ?_
    refine G_iconst (v := (nI 1)) dX10_isCell_22 (by decide) ?_
    refine G_iald (k := 1) (v := (nI (g 1))) dX10_isCell_23 rfl (vp_in_nI (by decide) (by decide)) rfl (hs.1 1 (by decide)) ?_
    refine G_iconst (v := (nI 1)) dX10_isCell_24 (by decide) ?_
    refine G_isub (v := (nI ((g 1) - 1))) dX10_isCell_25 (pk_sub (by omega)) ?_
    refine G_callSi (ν := uX10_in) (As := [.inl y, .inl (nI 0), .inl (nI ((g 1) - 1))]) dX10_isCell_26 nX10_85 kX10_in rfl rfl rfl (Nat.le_of_ble_eq_true rfl) (y_in) ?_
    rintro _ M8 ⟨rfl, e9⟩
    subst M8
    refine Gb_if_eq (tgt := 36) dX10_isCell_29 (by decide) (fun h29 => ?_) (fun h29 => ?_)
    · refine G_iconst (v := (nI 0)) dX10_isCell_36 (by decide) ?_
      refine G_iret dX10_isCell_37 rfl (by decide) ?_
      exact ⟨congrArg Sum.inl (bI_f (by unfold hasD; rw [h13, h29]; rfl)), rfl⟩
    · refine G_iconst (v := (nI 1)) dX10_isCell_32 (by decide) ?_
      refine G_goto (tgt := 37) dX10_isCell_33 (by decide) ?_
      refine G_iret dX10_isCell_37 rfl (by decide) ?_
      exact ⟨congrArg Sum.inl (bI_t (by unfold hasD; rw [h13, h29]; rfl)), rfl⟩
theorem y_beside {d a b : Nat} {g : Nat → Nat} {M : Mem} (hs : hS g (M 51)) (hk : gok g) (ha : a < g 0 * g 1) (hb : b < g 0 * g 1) : Call l α D cA uX10_areBeside d [.inr 50, .inl (nI a), .inl (nI b)] M (fun r M1 => r = .inl (bI (dec (bsd (g 0) a b))) ∧ M1 = M) := by
  refine Call.of kX10_areBeside.1 (Nat.le_of_ble_eq_true rfl) ?_
  have h1 := hk.1
  have hc := cel_48 hk
  have da := dm_lt hk ha
  have db := dm_lt hk hb
  obtain ⟨q1, q2, q3, q4⟩ := sq_I _ da.1 _ db.1
  obtain ⟨r1, r2, r3, r4⟩ := sq_I _ da.2 _ db.2
  have hb2 := bsd_iff hk ha hb
  refine G_iload_n dX10_areBeside_0 rfl rfl ?_
  refine G_aload_n dX10_areBeside_1 rfl rfl ?_
  refine G_getR (j := 51) dX10_areBeside_2 fX10_7 rfl rfl ?_
  refine G_iconst (v := (nI 0)) dX10_areBeside_5 (by decide) ?_
  refine G_iald (k := 0) (v := (nI (g 0))) dX10_areBeside_6 rfl (vp_in_nI (by decide) (by decide)) rfl (hs.1 0 (by decide)) ?_
  refine G_irem (v := (nI (a % (g 0)))) dX10_areBeside_7 (nI_ne0 (by omega) (by omega)) (pk_rem (by omega) (by omega) (by omega)) ?_
  refine G_iload_n dX10_areBeside_8 rfl rfl ?_
  refine G_aload_n dX10_areBeside_9 rfl rfl ?_
  refine G_getR (j := 51) dX10_areBeside_10 fX10_7 rfl rfl ?_
  refine G_iconst (v := (nI 0)) dX10_areBeside_13 (by decide) ?_
  refine G_iald (k := 0) (v := (nI (g 0))) dX10_areBeside_14 rfl (vp_in_nI (by decide) (by decide)) rfl (hs.1 0 (by decide)) ?_
  refine G_irem (v := (nI (b % (g 0)))) dX10_areBeside_15 (nI_ne0 (by omega) (by omega)) (pk_rem (by omega) (by omega) (by omega)) ?_
  refine G_isub (v := (nI (a % g 0) - nI (b % g 0))) dX10_areBeside_16 rfl ?_
  refine G_istore_n (L2 := [some (.inr 50), some (.inl (nI a)), some (.inl (nI b)), some (.inl (nI (a % g 0) - nI (b % g 0))), none]) dX10_areBeside_17 rfl (Nat.le_of_ble_eq_true rfl) rfl ?_
  refine G_iload_n dX10_areBeside_18 rfl rfl ?_
  refine G_aload_n dX10_areBeside_19 rfl rfl ?_
  refine G_getR (j := 51) dX10_areBeside_20 fX10_7 rfl rfl ?_
  refine G_iconst (v := (nI 0)) dX10_areBeside_23 (by decide) ?_
  refine G_iald (k := 0) (v := (nI (g 0))) dX10_areBeside_24 rfl (vp_in_nI (by decide) (by decide)) rfl (hs.1 0 (by decide)) ?_
  refine G_idiv (v := (nI (a / (g 0)))) dX10_areBeside_25 (nI_ne0 (by omega) (by omega)) (pk_div (by omega) (by omega) (by omega)) ?_
  refine G_iload_n dX10_areBeside_26 rfl rfl ?_
  refine G_aload_n dX10_areBeside_27 rfl rfl ?_
  refine G_getR (j := 51) dX10_areBeside_28 fX10_7 rfl rfl ?_
  refine G_iconst (v := (nI 0)) dX10_areBeside_31 (by decide) ?_
  refine G_iald (k := 0) (v := (nI (g 0))) dX10_areBeside_32 rfl (vp_in_nI (by decide) (by decide)) rfl (hs.1 0 (by decide)) ?_
  refine G_idiv (v := (nI (b / (g 0)))) dX10_areBeside_33 (nI_ne0 (by omega) (by omega)) (pk_div (by omega) (by omega) (by omega)) ?_
  refine G_isub (v := (nI (a / g 0) - nI (b / g 0))) dX10_areBeside_34 rfl ?_
  refine G_istore (L2 := [some (.inr 50), some (.inl (nI a)), some (.inl (nI b)), some (.inl (nI (a % g 0) - nI (b % g 0))), some (.inl (nI (a / g 0) - nI (b / g 0)))]) dX10_areBeside_35 (Nat.le_of_ble_eq_true rfl) rfl ?_
  refine G_iload_n dX10_areBeside_37 rfl rfl ?_
  refine G_iload_n dX10_areBeside_38 rfl rfl ?_
  refine G_imul (v := (nI (sq (a % g 0) (b % g 0)))) dX10_areBeside_39 q1 ?_
  refine G_iload dX10_areBeside_40 rfl ?_
  refine G_iload dX10_areBeside_42 rfl ?_
  refine G_imul (v := (nI (sq (a / g 0) (b / g 0)))) dX10_areBeside_44 r1 ?_
  refine G_iadd (v := (nI ((sq (a % g 0) (b % g 0)) + (sq (a / g 0) (b / g 0))))) dX10_areBeside_45 (nI_add _ _) ?_
  refine G_iconst (v := (nI 1)) dX10_areBeside_46 (by decide) ?_
  refine Gn_icmp_ne (tgt := 54) dX10_areBeside_47 (by decide) (by omega) (by omega) (fun h47 => ?_) (fun h47 => ?_)
  · refine G_iconst (v := (nI 0)) dX10_areBeside_54 (by decide) ?_
    refine G_iret dX10_areBeside_55 rfl (by decide) ?_
    exact ⟨congrArg Sum.inl (bI_f (dec_f (fun q => h47 (hb2.mp q)))), rfl⟩
  · refine G_iconst (v := (nI 1)) dX10_areBeside_50 (by decide) ?_
    refine G_goto (tgt := 55) dX10_areBeside_51 (by decide) ?_
    refine G_iret dX10_areBeside_55 rfl (by decide) ?_
    exact ⟨congrArg Sum.inl (bI_t (dec_t (hb2.mpr (by omega)))), rfl⟩
end P28
