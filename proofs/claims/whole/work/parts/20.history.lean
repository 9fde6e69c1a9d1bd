/-! Cloths in order; History (38, 39, rows 40 to 45); Observations (34, 35, 36, 37) -/
section P20
variable {l : Launch} {α : Nat → Nat} {D : va_G} {cA : Nat → ClassId}
/-- a cloth is as it should be -/
def gok (g : Nat → Nat) : Prop := (1 ≤ g 0 ∧ g 0 ≤ 8) ∧ (1 ≤ g 1 ∧ g 1 ≤ 6) ∧ (1 ≤ g 2 ∧ g 2 ≤ 5) ∧ g 3 ≤ 2 ∧ (∀ c, c < 4 → g (4 + c) ≤ 1 ∧ g (8 + c) ≤ 9) ∧ ∀ p, p < 48 → g (12 + p) ≤ 3 ∧ (g (12 + p) ≠ 0 → p % 8 < g 0 ∧ p / 8 < g 1)
theorem gok_9 {g : Nat → Nat} (h : gok g) : g9 g := by
  obtain ⟨h0, h1, h2, h3, h4, h5⟩ := h
  intro i hi
  rcases (show i = 0 ∨ i = 1 ∨ i = 2 ∨ i = 3 ∨ (4 ≤ i ∧ i < 8) ∨ (8 ≤ i ∧ i < 12) ∨ 12 ≤ i by omega) with rfl | rfl | rfl | rfl | z | z | z
  · omega
  · omega
  · omega
  · omega
  · have := (h4 (i - 4) (by omega)).1
    rw [show 4 + (i - 4) = i by omega] at this
    omega
  · have := (h4 (i - 8) (by omega)).2
    rw [show 8 + (i - 8) = i by omega] at this
    omega
  · have := (h5 (i - 12) (by omega)).1
    rw [show 12 + (i - 12) = i by omega] at this
    omega
theorem hC_cpy {g : Nat → Nat} {f f2 : Nat → Int32} (h : hC g f) : hC g (va_cpy f f2 0 0 60) := fun i hi => by
  rw [pk_cpy_in (Nat.zero_le _) (by omega)]
  rw [show 0 + (i - 0) = i by omega]
  exact h i hi
/-- the history: n cloths, the newest first; nx is the next row of the ring -/
def HX (n nx : Nat) (G : Nat → Nat → Nat) (M : Mem) : Prop := M 38 1 = nI nx ∧ M 38 2 = nI n ∧ nx < 6 ∧ n ≤ 6 ∧ ∀ i, i < n → hC (G i) (M (40 + (nx + 5 - i) % 6))
def FRH (M M1 : Mem) : Prop := ∀ q, q ≠ 38 → (q < 40 ∨ 45 < q) → M1 q = M q
theorem ring_at : ∀ n, n < 6 → ([40, 41, 42, 43, 44, 45] : List Nat)[n]? = some (40 + n) ∧ SHL[40 + n]? = some (.inr (.inl (0, 60))) := by
  intro n hn
  rcases (show n = 0 ∨ n = 1 ∨ n = 2 ∨ n = 3 ∨ n = 4 ∨ n = 5 by omega) with rfl | rfl | rfl | rfl | rfl | rfl <;> exact ⟨rfl, rfl⟩
def hCons (g : Nat → Nat) (G : Nat → Nat → Nat) : Nat → Nat → Nat := fun i => match i with
  | 0 => g
  | i + 1 => G i
theorem min_nI6 {n : Nat} (h : n ≤ 6) : (if nI 6 < nI (n + 1) then nI 6 else nI (n + 1)) = nI (min (n + 1) 6) := min_nI (by omega) (by decide)
theorem nx_next {nx : Nat} (h : nx < 6) : (nx + 1) % 6 = if nx + 1 < 6 then nx + 1 else 0 := by
  split
  · omega
  · omega
theorem c_push {d n nx : Nat} {g : Nat → Nat} {G : Nat → Nat → Nat} {M : Mem} (hg : hC g (M 2)) (hX : HX n nx G M) : Call l α D cA uX2_push (d + 2) [.inr 38, .inr 1] M (fun _ M1 => FRH M M1 ∧ HX (min (n + 1) 6) ((nx + 1) % 6) (hCons g G) M1) := by
  refine Call.of kX2_push.1 (Nat.le_of_ble_eq_true rfl) ?_
  have hnx := hX.2.2.1
  have hn := hX.2.2.2.1
  refine G_aload_n dX2_push_0 rfl rfl ?_
  refine G_getI (v := (nI nx)) dX2_push_1 fX2_22 rfl rfl hX.1 ?_
  refine G_iconst (v := (nI 0)) dX2_push_4 (by decide) ?_
  refine G_iconst (v := (nI 5)) dX2_push_5 (by decide) ?_
  refine G_callSi (ν := uX9_within) (As := [.inl (nI nx), .inl (nI 0), .inl (nI 5)]) dX2_push_6 nX2_25 kX9_within rfl rfl rfl (Nat.le_of_ble_eq_true rfl) (c_within) ?_
  rintro _ M8 ⟨rfl, e9⟩
  subst M8
  rw [inr_nI (Nat.zero_le _) (by omega) (by decide)]
  refine Gb_if_eq (tgt := 25) dX2_push_9 (by decide) (fun h9 => ?_) (fun h9 => ?_)
  · exact absurd h9 (by decide)
  · refine G_aload_n dX2_push_12 rfl rfl ?_
    refine G_aload_n dX2_push_13 rfl rfl ?_
    refine G_getR (j := 39) dX2_push_14 fX2_13 rfl rfl ?_
    refine G_aload_n dX2_push_17 rfl rfl ?_
    refine G_getI (v := (nI nx)) dX2_push_18 fX2_22 rfl rfl hX.1 ?_
    refine G_aald (j := (40 + nx)) dX2_push_21 rfl (vp_in_nI (by show nx < 6; omega) (by decide)) (by rw [nI_clamp (by omega)]; exact (ring_at nx (by omega)).1) ?_
    refine G_callVv (ν := uX0_saveTo) (As := [.inr (40 + nx)]) dX2_push_22 nX2_29 kX0_saveTo rfl rfl rfl rfl rfl (Nat.le_of_ble_eq_true rfl) (c_saveTo (o := 1) (v := 2) (r := 40 + nx) rfl rfl (ring_at nx hnx).2) ?_
    rintro _ M8 e9
    subst M8
    refine G_aload_n dX2_push_25 rfl rfl ?_
    refine G_aload_n dX2_push_26 rfl rfl ?_
    refine G_getI (v := (nI nx)) dX2_push_27 fX2_22 rfl rfl (by simp [mo, show (38 : Nat) ≠ 40 + nx by omega]; exact hX.1) ?_
    refine G_iconst (v := (nI 1)) dX2_push_30 (by decide) ?_
    refine G_iadd (v := (nI (nx + 1))) dX2_push_31 (nI_add _ _) ?_
    refine G_bipush (v := (nI 6)) dX2_push_32 (by decide) ?_
    refine Gn_icmp_ge (tgt := 46) dX2_push_34 (by decide) (by omega) (by omega) (fun h34 => ?_) (fun h34 => ?_)
    · refine G_iconst (v := (nI 0)) dX2_push_46 (by decide) ?_
      refine G_put dX2_push_47 pX2_22 rfl rfl ?_
      refine G_aload_n dX2_push_50 rfl rfl ?_
      refine G_aload_n dX2_push_51 rfl rfl ?_
      refine G_getI (v := (nI n)) dX2_push_52 fX2_18 rfl rfl (by simp [ms, mo, upd, show (38 : Nat) ≠ 40 + nx by omega]; exact hX.2.1) ?_
      refine G_iconst (v := (nI 1)) dX2_push_55 (by decide) ?_
      refine G_iadd (v := (nI (n + 1))) dX2_push_56 (nI_add _ _) ?_
      refine G_bipush (v := (nI 6)) dX2_push_57 (by decide) ?_
      refine G_min (v := (nI (min (n + 1) 6))) dX2_push_59 mX2_33 (Nat.le_of_ble_eq_true rfl) (min_nI6 hn) ?_
      refine G_put dX2_push_62 pX2_18 rfl rfl ?_
      refine G_vret dX2_push_65 rfl ?_
      refine ⟨fun q h1 h2 => by simp [ms, mo, h1, show q ≠ 40 + nx by omega], by simp [ms, upd]; rw [show (nx + 1) % 6 = 0 by omega], by simp [ms, upd], by omega, by omega, fun i hi => ?_⟩
      have e0 : ∀ q, 40 ≤ q → q ≠ 38 := fun q hq => by omega
      cases i with
      | zero =>
        rw [show 40 + ((nx + 1) % 6 + 5 - 0) % 6 = 40 + nx by omega]
        simp only [ms, if_neg (e0 (40 + nx) (by omega)), mo, if_true]
        exact hC_cpy hg
      | succ i =>
        rw [show 40 + ((nx + 1) % 6 + 5 - (i + 1)) % 6 = 40 + (nx + 5 - i) % 6 by omega]
        simp only [ms, if_neg (e0 (40 + (nx + 5 - i) % 6) (by omega)), mo, if_neg (show 40 + (nx + 5 - i) % 6 ≠ 40 + nx by omega)]
        exact hX.2.2.2.2 i (by omega)
    · refine G_aload_n dX2_push_37 rfl rfl ?_
      refine G_getI (v := (nI nx)) dX2_push_38 fX2_22 rfl rfl (by simp [mo, show (38 : Nat) ≠ 40 + nx by omega]; exact hX.1) ?_
      refine G_iconst (v := (nI 1)) dX2_push_41 (by decide) ?_
      refine G_iadd (v := (nI (nx + 1))) dX2_push_42 (nI_add _ _) ?_
      refine G_goto (tgt := 47) dX2_push_43 (by decide) ?_
      refine G_put dX2_push_47 pX2_22 rfl rfl ?_
      refine G_aload_n dX2_push_50 rfl rfl ?_
      refine G_aload_n dX2_push_51 rfl rfl ?_
      refine G_getI (v := (nI n)) dX2_push_52 fX2_18 rfl rfl (by simp [ms, mo, upd, show (38 : Nat) ≠ 40 + nx by omega]; exact hX.2.1) ?_
      refine G_iconst (v := (nI 1)) dX2_push_55 (by decide) ?_
      refine G_iadd (v := (nI (n + 1))) dX2_push_56 (nI_add _ _) ?_
      refine G_bipush (v := (nI 6)) dX2_push_57 (by decide) ?_
      refine G_min (v := (nI (min (n + 1) 6))) dX2_push_59 mX2_33 (Nat.le_of_ble_eq_true rfl) (min_nI6 hn) ?_
      refine G_put dX2_push_62 pX2_18 rfl rfl ?_
      refine G_vret dX2_push_65 rfl ?_
      refine ⟨fun q h1 h2 => by simp [ms, mo, h1, show q ≠ 40 + nx by omega], by simp [ms, upd]; rw [Nat.mod_eq_of_lt (by omega)], by simp [ms, upd], by omega, by omega, fun i hi => ?_⟩
      have e0 : ∀ q, 40 ≤ q → q ≠ 38 := fun q hq => by omega
      cases i with
      | zero =>
        rw [show 40 + ((nx + 1) % 6 + 5 - 0) % 6 = 40 + nx by omega]
        simp only [ms, if_neg (e0 (40 + nx) (by omega)), mo, if_true]
        exact hC_cpy hg
      | succ i =>
        rw [show 40 + ((nx + 1) % 6 + 5 - (i + 1)) % 6 = 40 + (nx + 5 - i) % 6 by omega]
        simp only [ms, if_neg (e0 (40 + (nx + 5 - i) % 6) (by omega)), mo, if_neg (show 40 + (nx + 5 - i) % 6 ≠ 40 + nx by omega)]
        exact hX.2.2.2.2 i (by omega)
theorem c_pop_a {d n nx : Nat} {G : Nat → Nat → Nat} {M : Mem} (hX : HX n nx G M) (hn0 : 0 < n) (hc : nx = 0) : Call l α D cA uX2_pop (d + 2) [.inr 38, .inr 1] M (fun _ M1 => (∀ q, q ≠ 38 → q ≠ 2 → M1 q = M q) ∧ hC (G 0) (M1 2) ∧ HX (n - 1) ((nx + 5) % 6) (fun i => G (i + 1)) M1) := by
  refine Call.of kX2_pop.1 (Nat.le_of_ble_eq_true rfl) ?_
  have hnx := hX.2.2.1
  have hn := hX.2.2.2.1
  refine G_aload_n dX2_pop_0 rfl rfl ?_
  refine G_aload_n dX2_pop_1 rfl rfl ?_
  refine G_getI (v := (nI nx)) dX2_pop_2 fX2_22 rfl rfl hX.1 ?_
  refine Gn_if_le (tgt := 17) dX2_pop_5 (by decide) (by omega) (fun h5 => ?_) (fun h5 => ?_)
  · refine G_iconst (v := (nI 5)) dX2_pop_17 (by decide) ?_
    refine G_put dX2_pop_18 pX2_22 rfl rfl ?_
    refine G_aload_n dX2_pop_21 rfl rfl ?_
    refine G_getI (v := (nI 5)) dX2_pop_22 fX2_22 rfl rfl (by simp [ms, upd]) ?_
    refine G_iconst (v := (nI 0)) dX2_pop_25 (by decide) ?_
    refine G_iconst (v := (nI 5)) dX2_pop_26 (by decide) ?_
    refine G_callSi (ν := uX9_within) (As := [.inl (nI 5), .inl (nI 0), .inl (nI 5)]) dX2_pop_27 nX2_25 kX9_within rfl rfl rfl (Nat.le_of_ble_eq_true rfl) (c_within) ?_
    rintro _ M8 ⟨rfl, e9⟩
    subst M8
    rw [inr_nI (Nat.zero_le _) (by omega) (by decide)]
    refine Gb_if_eq (tgt := 46) dX2_pop_30 (by decide) (fun h30 => ?_) (fun h30 => ?_)
    · exact absurd h30 (by decide)
    · refine G_aload_n dX2_pop_33 rfl rfl ?_
      refine G_aload_n dX2_pop_34 rfl rfl ?_
      refine G_getR (j := 39) dX2_pop_35 fX2_13 rfl rfl ?_
      refine G_aload_n dX2_pop_38 rfl rfl ?_
      refine G_getI (v := (nI 5)) dX2_pop_39 fX2_22 rfl rfl (by simp [ms, upd]) ?_
      refine G_aald (j := (40 + 5)) dX2_pop_42 rfl (vp_in_nI (by show 5 < 6; omega) (by decide)) (by rw [nI_clamp (by omega)]; exact (ring_at 5 (by omega)).1) ?_
      refine G_callVv (ν := uX0_loadFrom) (As := [.inr (40 + 5)]) dX2_pop_43 nX2_39 kX0_loadFrom rfl rfl rfl rfl rfl (Nat.le_of_ble_eq_true rfl) (c_loadFrom (o := 1) (v := 2) (r := 40 + 5) rfl rfl (ring_at (5) (by omega)).2) ?_
      rintro _ M8 e9
      subst M8
      refine G_aload_n dX2_pop_46 rfl rfl ?_
      refine G_aload_n dX2_pop_47 rfl rfl ?_
      refine G_getI (v := (nI n)) dX2_pop_48 fX2_18 rfl rfl (by simp [ms, mo, upd]; exact hX.2.1) ?_
      refine G_iconst (v := (nI 1)) dX2_pop_51 (by decide) ?_
      refine G_isub (v := (nI (n - 1))) dX2_pop_52 (pk_sub (by omega)) ?_
      refine G_iconst (v := (nI 0)) dX2_pop_53 (by decide) ?_
      refine G_max (v := (nI (n - 1))) dX2_pop_54 mX2_42 (Nat.le_of_ble_eq_true rfl) (by rw [if_neg (nI_nlt (Nat.zero_le _) (by omega))]) ?_
      refine G_put dX2_pop_57 pX2_18 rfl rfl ?_
      refine G_vret dX2_pop_60 rfl ?_
      have e5 : (nx + 5) % 6 = 5 := by omega
      refine ⟨fun q h1 h2 => by simp [ms, mo, h1, h2], ?_, by simp [ms, mo, upd, e5], by simp [ms, upd], by omega, by omega, fun i hi => ?_⟩
      · simp only [ms, mo]
        simp
        refine hC_cpy ?_
        have := hX.2.2.2.2 0 hn0
        rw [show 40 + (nx + 5 - 0) % 6 = 40 + (5) by omega] at this
        first
          | (rw [if_neg (show 40 + (5) ≠ 38 by omega)]; exact this)
          | exact this
      · rw [show 40 + ((nx + 5) % 6 + 5 - i) % 6 = 40 + (nx + 5 - (i + 1)) % 6 by omega]
        simp only [ms, mo, if_neg (show 40 + (nx + 5 - (i + 1)) % 6 ≠ 38 by omega), if_neg (show 40 + (nx + 5 - (i + 1)) % 6 ≠ 2 by omega)]
        exact hX.2.2.2.2 (i + 1) (by omega)
  · omega
theorem c_pop_b {d n nx : Nat} {G : Nat → Nat → Nat} {M : Mem} (hX : HX n nx G M) (hn0 : 0 < n) (hc : 0 < nx) : Call l α D cA uX2_pop (d + 2) [.inr 38, .inr 1] M (fun _ M1 => (∀ q, q ≠ 38 → q ≠ 2 → M1 q = M q) ∧ hC (G 0) (M1 2) ∧ HX (n - 1) ((nx + 5) % 6) (fun i => G (i + 1)) M1) := by
  refine Call.of kX2_pop.1 (Nat.le_of_ble_eq_true rfl) ?_
  have hnx := hX.2.2.1
  have hn := hX.2.2.2.1
  refine G_aload_n dX2_pop_0 rfl rfl ?_
  refine G_aload_n dX2_pop_1 rfl rfl ?_
  refine G_getI (v := (nI nx)) dX2_pop_2 fX2_22 rfl rfl hX.1 ?_
  refine Gn_if_le (tgt := 17) dX2_pop_5 (by decide) (by omega) (fun h5 => ?_) (fun h5 => ?_)
  · omega
  · refine G_aload_n dX2_pop_8 rfl rfl ?_
    refine G_getI (v := (nI nx)) dX2_pop_9 fX2_22 rfl rfl hX.1 ?_
    refine G_iconst (v := (nI 1)) dX2_pop_12 (by decide) ?_
    refine G_isub (v := (nI (nx - 1))) dX2_pop_13 (pk_sub (by omega)) ?_
    refine G_goto (tgt := 18) dX2_pop_14 (by decide) ?_
    refine G_put dX2_pop_18 pX2_22 rfl rfl ?_
    refine G_aload_n dX2_pop_21 rfl rfl ?_
    refine G_getI (v := (nI (nx - 1))) dX2_pop_22 fX2_22 rfl rfl (by simp [ms, upd]) ?_
    refine G_iconst (v := (nI 0)) dX2_pop_25 (by decide) ?_
    refine G_iconst (v := (nI 5)) dX2_pop_26 (by decide) ?_
    refine G_callSi (ν := uX9_within) (As := [.inl (nI (nx - 1)), .inl (nI 0), .inl (nI 5)]) dX2_pop_27 nX2_25 kX9_within rfl rfl rfl (Nat.le_of_ble_eq_true rfl) (c_within) ?_
    rintro _ M8 ⟨rfl, e9⟩
    subst M8
    rw [inr_nI (Nat.zero_le _) (by omega) (by decide)]
    refine Gb_if_eq (tgt := 46) dX2_pop_30 (by decide) (fun h30 => ?_) (fun h30 => ?_)
    · exact absurd h30 (by decide)
    · refine G_aload_n dX2_pop_33 rfl rfl ?_
      refine G_aload_n dX2_pop_34 rfl rfl ?_
      refine G_getR (j := 39) dX2_pop_35 fX2_13 rfl rfl ?_
      refine G_aload_n dX2_pop_38 rfl rfl ?_
      refine G_getI (v := (nI (nx - 1))) dX2_pop_39 fX2_22 rfl rfl (by simp [ms, upd]) ?_
      refine G_aald (j := (40 + (nx - 1))) dX2_pop_42 rfl (vp_in_nI (by show (nx - 1) < 6; omega) (by decide)) (by rw [nI_clamp (by omega)]; exact (ring_at (nx - 1) (by omega)).1) ?_
      refine G_callVv (ν := uX0_loadFrom) (As := [.inr (40 + (nx - 1))]) dX2_pop_43 nX2_39 kX0_loadFrom rfl rfl rfl rfl rfl (Nat.le_of_ble_eq_true rfl) (c_loadFrom (o := 1) (v := 2) (r := 40 + (nx - 1)) rfl rfl (ring_at ((nx - 1)) (by omega)).2) ?_
      rintro _ M8 e9
      subst M8
      refine G_aload_n dX2_pop_46 rfl rfl ?_
      refine G_aload_n dX2_pop_47 rfl rfl ?_
      refine G_getI (v := (nI n)) dX2_pop_48 fX2_18 rfl rfl (by simp [ms, mo, upd]; exact hX.2.1) ?_
      refine G_iconst (v := (nI 1)) dX2_pop_51 (by decide) ?_
      refine G_isub (v := (nI (n - 1))) dX2_pop_52 (pk_sub (by omega)) ?_
      refine G_iconst (v := (nI 0)) dX2_pop_53 (by decide) ?_
      refine G_max (v := (nI (n - 1))) dX2_pop_54 mX2_42 (Nat.le_of_ble_eq_true rfl) (by rw [if_neg (nI_nlt (Nat.zero_le _) (by omega))]) ?_
      refine G_put dX2_pop_57 pX2_18 rfl rfl ?_
      refine G_vret dX2_pop_60 rfl ?_
      have e5 : (nx + 5) % 6 = (nx - 1) := by omega
      refine ⟨fun q h1 h2 => by simp [ms, mo, h1, h2], ?_, by simp [ms, mo, upd, e5], by simp [ms, upd], by omega, by omega, fun i hi => ?_⟩
      · simp only [ms, mo]
        simp
        refine hC_cpy ?_
        have := hX.2.2.2.2 0 hn0
        rw [show 40 + (nx + 5 - 0) % 6 = 40 + ((nx - 1)) by omega] at this
        first
          | (rw [if_neg (show 40 + ((nx - 1)) ≠ 38 by omega)]; exact this)
          | exact this
      · rw [show 40 + ((nx + 5) % 6 + 5 - i) % 6 = 40 + (nx + 5 - (i + 1)) % 6 by omega]
        simp only [ms, mo, if_neg (show 40 + (nx + 5 - (i + 1)) % 6 ≠ 38 by omega), if_neg (show 40 + (nx + 5 - (i + 1)) % 6 ≠ 2 by omega)]
        exact hX.2.2.2.2 (i + 1) (by omega)
theorem c_pop {d n nx : Nat} {G : Nat → Nat → Nat} {M : Mem} (hX : HX n nx G M) (hn0 : 0 < n) : Call l α D cA uX2_pop (d + 2) [.inr 38, .inr 1] M (fun _ M1 => (∀ q, q ≠ 38 → q ≠ 2 → M1 q = M q) ∧ hC (G 0) (M1 2) ∧ HX (n - 1) ((nx + 5) % 6) (fun i => G (i + 1)) M1) := by
  rcases Nat.eq_zero_or_pos nx with h | h
  · exact c_pop_a hX hn0 h
  · exact c_pop_b hX hn0 h
theorem c_hsize {d : Nat} {x : Int32} {M : Mem} (hM : M 38 2 = x) : Call l α D cA uX2_size d [.inr 38] M (fun r M1 => r = .inl x ∧ M1 = M) := by
  refine Call.of kX2_size.1 (Nat.le_of_ble_eq_true rfl) ?_
  refine G_aload_n dX2_size_0 rfl rfl ?_
  refine G_getI (v := x) dX2_size_1 fX2_18 rfl rfl hM ?_
  refine G_iret dX2_size_4 rfl rfl ?_
  exact ⟨rfl, rfl⟩
theorem c_osize {d : Nat} {x : Int32} {M : Mem} (hM : M 34 3 = x) : Call l α D cA uX3_size d [.inr 34] M (fun r M1 => r = .inl x ∧ M1 = M) := by
  refine Call.of kX3_size.1 (Nat.le_of_ble_eq_true rfl) ?_
  refine G_aload_n dX3_size_0 rfl rfl ?_
  refine G_getI (v := x) dX3_size_1 fX3_21 rfl rfl hM ?_
  refine G_iret dX3_size_4 rfl rfl ?_
  exact ⟨rfl, rfl⟩
theorem c_hdrop {d : Nat} {M : Mem} : Call l α D cA uX2_drop d [.inr 38] M (fun _ M1 => M1 = ms M 38 2 (nI 0)) := by
  refine Call.of kX2_drop.1 (Nat.le_of_ble_eq_true rfl) ?_
  refine G_aload_n dX2_drop_0 rfl rfl ?_
  refine G_iconst (v := (nI 0)) dX2_drop_1 (by decide) ?_
  refine G_put dX2_drop_2 pX2_18 rfl rfl ?_
  refine G_vret dX2_drop_5 rfl ?_
  exact rfl
theorem c_odrop {d : Nat} {M : Mem} : Call l α D cA uX3_drop d [.inr 34] M (fun _ M1 => M1 = ms M 34 3 (nI 0)) := by
  refine Call.of kX3_drop.1 (Nat.le_of_ble_eq_true rfl) ?_
  refine G_aload_n dX3_drop_0 rfl rfl ?_
  refine G_iconst (v := (nI 0)) dX3_drop_1 (by decide) ?_
  refine G_put dX3_drop_2 pX3_21 rfl rfl ?_
  refine G_vret dX3_drop_5 rfl ?_
  exact rfl
/-- what the observations' cells hold -/
def OB (n : Nat) (dr wt fg : Nat → Nat) (M : Mem) : Prop := M 34 3 = nI n ∧ n ≤ 6 ∧ ∀ i, i < n → (M 35 i = nI (dr i) ∧ dr i < 2) ∧ (M 36 i = nI (wt i) ∧ wt i < 4) ∧ M 37 i = nI (fg i) ∧ fg i ≤ 99
theorem c_oadd {d n a b c : Nat} {dr wt fg : Nat → Nat} {M : Mem} (hO : OB n dr wt fg M) (hn : n < 6) (ha : a < 2) (hb : b < 4) (hc : c ≤ 99) : Call l α D cA uX3_add (d + 1) [.inr 34, .inl (nI a), .inl (nI b), .inl (nI c)] M (fun _ M1 => (∀ q, (q < 34 ∨ 37 < q) → M1 q = M q) ∧ OB (n + 1) (updN dr n a) (updN wt n b) (updN fg n c) M1) := by
  refine Call.of kX3_add.1 (Nat.le_of_ble_eq_true rfl) ?_
  refine G_aload_n dX3_add_0 rfl rfl ?_
  refine G_getR (j := 35) dX3_add_1 fX3_9 rfl rfl ?_
  refine G_aload_n dX3_add_4 rfl rfl ?_
  refine G_getI (v := (nI n)) dX3_add_5 fX3_21 rfl rfl hO.1 ?_
  refine G_iload_n dX3_add_8 rfl rfl ?_
  refine G_callSv (ν := uX9_put) (As := [.inr 35, .inl (nI n), .inl (nI a)]) dX3_add_9 nX3_25 kX9_put rfl rfl rfl (Nat.le_of_ble_eq_true rfl) (c_puts (o := 35) (n := 6) rfl (by decide) (hn)) ?_
  rintro _ M8 e9
  subst M8
  refine G_aload_n dX3_add_12 rfl rfl ?_
  refine G_getR (j := 36) dX3_add_13 fX3_15 rfl rfl ?_
  refine G_aload_n dX3_add_16 rfl rfl ?_
  refine G_getI (v := (nI n)) dX3_add_17 fX3_21 rfl rfl (by simp [ms]; exact hO.1) ?_
  refine G_iload_n dX3_add_20 rfl rfl ?_
  refine G_callSv (ν := uX9_put) (As := [.inr 36, .inl (nI n), .inl (nI b)]) dX3_add_21 nX3_25 kX9_put rfl rfl rfl (Nat.le_of_ble_eq_true rfl) (c_puts (o := 36) (n := 6) rfl (by decide) (hn)) ?_
  rintro _ M8 e9
  subst M8
  refine G_aload_n dX3_add_24 rfl rfl ?_
  refine G_getR (j := 37) dX3_add_25 fX3_18 rfl rfl ?_
  refine G_aload_n dX3_add_28 rfl rfl ?_
  refine G_getI (v := (nI n)) dX3_add_29 fX3_21 rfl rfl (by simp [ms]; exact hO.1) ?_
  refine G_iload_n dX3_add_32 rfl rfl ?_
  refine G_callSv (ν := uX9_put) (As := [.inr 37, .inl (nI n), .inl (nI c)]) dX3_add_33 nX3_25 kX9_put rfl rfl rfl (Nat.le_of_ble_eq_true rfl) (c_puts (o := 37) (n := 6) rfl (by decide) (hn)) ?_
  rintro _ M8 e9
  subst M8
  refine G_aload_n dX3_add_36 rfl rfl ?_
  refine G_aload_n dX3_add_37 rfl rfl ?_
  refine G_getI (v := (nI n)) dX3_add_38 fX3_21 rfl rfl (by simp [ms]; exact hO.1) ?_
  refine G_iconst (v := (nI 1)) dX3_add_41 (by decide) ?_
  refine G_iadd (v := (nI (n + 1))) dX3_add_42 (nI_add _ _) ?_
  refine G_bipush (v := (nI 6)) dX3_add_43 (by decide) ?_
  refine G_min (v := (nI (n + 1))) dX3_add_45 mX3_29 (Nat.le_of_ble_eq_true rfl) (by rw [if_neg (nI_nlt (by omega) (by decide))]) ?_
  refine G_put dX3_add_48 pX3_21 rfl rfl ?_
  refine G_vret dX3_add_51 rfl ?_
  refine ⟨fun q hq => by simp [ms, show q ≠ 34 by omega, show q ≠ 35 by omega, show q ≠ 36 by omega, show q ≠ 37 by omega], by simp [ms, upd], by omega, fun i hi => ?_⟩
  by_cases e : i = n
  · subst e
    simp [ms, upd, updN_k]
    omega
  · simp [ms, upd, e, updN_n e]
    have := hO.2.2 i (by omega)
    exact ⟨this.1, this.2.1, this.2.2⟩
def FRA (M M1 : Mem) : Prop := ∀ q, (q < 17 ∨ 30 < q) → M1 q = M q
theorem FRA_S {M M1 : Mem} (h : FRS M M1) : FRA M M1 := fun q hq => h q (by omega) (by omega)
theorem FRA_s {M M1 : Mem} (h : FR_s M M1) : FRA M M1 := fun q hq => h q (by omega) (by omega) (by omega)
theorem FRA_t {M M1 M2 : Mem} (h : FRA M M1) (h2 : FRA M1 M2) : FRA M M2 := fun q hq => (h2 q hq).trans (h q hq)
theorem FRA_r {M : Mem} : FRA M M := fun _ _ => rfl
abbrev MPg (g : Nat → Nat) (M : Mem) : Prop := MP g (labF g) (labN g) (labR g) M
theorem MPg_A {g : Nat → Nat} {M M1 : Mem} (h : MPg g M) (hF : FRA M M1) : MPg g M1 := by
  unfold MPg MP at *
  rw [hF 12 (by decide), hF 8 (by decide), hF 13 (by decide), hF 14 (by decide), hF 15 (by decide)]
  exact h
theorem hC_A {g : Nat → Nat} {M M1 : Mem} (h : hC g (M 2)) (hF : FRA M M1) : hC g (M1 2) := by rw [hF 2 (by decide)]; exact h
theorem labF_lt {g : Nat → Nat} : ∀ q x, labF g q = some x → x < 48 := fun q x h => by
  have := (labF_inv g).2.1 q x h
  have := (labF_inv g).1
  omega
noncomputable def figG (g : Nat → Nat) (w f k : Nat) : Nat := fig g w (g 2) (rwS (labF g) w f (g 0) (g 1)) k
/-- laid for f and w -/
abbrev SWg (g : Nat → Nat) (w f : Nat) (M : Mem) : Prop := SWx (labF g) w f (g 0) (g 1) (g 2) M
theorem c_layG {d f w : Nat} {g : Nat → Nat} {M : Mem} (hg : hC g (M 2)) (hk : gok g) (hM : MPg g M) (hf : f < labN g) (w2 : w < 2) : Call l α D cA uX5_lay (d + 4) [.inr 17, .inr 1, .inr 8, .inl (nI f), .inl (nI w)] M (fun _ M1 => FRA M M1 ∧ SWg g w f M1) :=
  (c_lay w2 (hg 0 (by decide)) (hg 1 (by decide)) (hg 2 (by decide)) hk.1.2 hk.2.1.2 hM.1 labF_lt (by have := (labF_inv g).1; omega)).mono (fun _ _ h => ⟨FRA_S h.1, h.2⟩)
theorem c_figG {d f w k : Nat} {g : Nat → Nat} {M : Mem} (hg : hC g (M 2)) (hk : gok g) (hS : SWg g w f M) (k4 : k < 4) : Call l α D cA uX5_figure (d + 4) [.inr 17, .inr 1, .inl (nI k)] M (fun r M1 => r = .inl (nI (figG g w f k)) ∧ FRA M M1) :=
  (c_figure hS hk.1.2 hk.2.1.2 hg (gok_9 hk) hk.2.2.1.1 hk.2.2.1.2 k4).mono (fun _ _ h => ⟨h.1, FRA_s h.2⟩)
theorem figG_lt {g : Nat → Nat} {w f k : Nat} (hk : gok g) (k4 : k < 4) : figG g w f k < 10000 := by
  have hb := (rwS_RB (F := labF g) (w := w) (f := f) hk.1.2 hk.2.1.2)
  have hp := (rwS_PI (F := labF g) (w := w) (f := f) (W := g 0) (H := g 1)).1
  have hm := hk.2.2.1
  have hb1 := hb.1
  unfold figG
  rcases (show k = 0 ∨ k = 1 ∨ k = 2 ∨ k = 3 by omega) with rfl | rfl | rfl | rfl
  · show (rwS (labF g) w f (g 0) (g 1)).1 < 10000
    omega
  · show (psS (rwS (labF g) w f (g 0) (g 1))).1 < 10000
    omega
  · show fb_sm (rSti (rwS (labF g) w f (g 0) (g 1)) (g 2)) (rwS (labF g) w f (g 0) (g 1)).1 < 10000
    have := fb_sm_bound (f := rSti (rwS (labF g) w f (g 0) (g 1)) (g 2)) (c := 60) (n := (rwS (labF g) w f (g 0) (g 1)).1) (fun r hr => by
      have := hb.2 r hr
      have h2 := (rwS_RI (F := labF g) (w := w) (f := f) (W := g 0) (H := g 1)).2.1 r hr
      unfold rSti rLen
      have : ((rwS (labF g) w f (g 0) (g 1)).2.2.2 r - (rwS (labF g) w f (g 0) (g 1)).2.2.1 r + 1 + g 2 - 1) / g 2 ≤ (rwS (labF g) w f (g 0) (g 1)).2.2.2 r - (rwS (labF g) w f (g 0) (g 1)).2.2.1 r + 1 + g 2 - 1 := Nat.div_le_self _ _
      omega)
    have := Nat.mul_le_mul_right 60 hb.1
    omega
  · show fb_sm (hid g w (rwS (labF g) w f (g 0) (g 1)) (psS (rwS (labF g) w f (g 0) (g 1)))) ((psS (rwS (labF g) w f (g 0) (g 1))).1 - 1) < 10000
    have := fb_sm_bound (f := hid g w (rwS (labF g) w f (g 0) (g 1)) (psS (rwS (labF g) w f (g 0) (g 1)))) (c := 48) (n := (psS (rwS (labF g) w f (g 0) (g 1))).1 - 1) (fun p hp2 => by
      obtain ⟨a1, a2⟩ := pEnd_in (F := labF g) (w := w) (f := f) hk.1.2 hk.2.1.2 (p := p) (by omega)
      obtain ⟨b1, b2⟩ := pBeg_in (F := labF g) (w := w) (f := f) hk.1.2 hk.2.1.2 (p := p + 1) (by omega)
      exact Nat.le_of_lt (isd_48 a2 (dst_isd (lab_conn a1 b1).1)))
    have := Nat.mul_le_mul_right 48 (show (psS (rwS (labF g) w f (g 0) (g 1))).1 - 1 ≤ 48 by omega)
    omega
/-- all observations are right for field f -/
def agr (g : Nat → Nat) (n : Nat) (dr wt fg : Nat → Nat) (f : Nat) : Prop := ∀ i, i < n → figG g (dr i) f (wt i) = fg i
theorem OB_A {n : Nat} {dr wt fg : Nat → Nat} {M M1 : Mem} (h : OB n dr wt fg M) (hF : FRA M M1) : OB n dr wt fg M1 := by
  unfold OB at *
  rw [hF 34 (by decide), hF 35 (by decide), hF 36 (by decide), hF 37 (by decide)]
  exact h
theorem l_agree {d f n : Nat} {dr wt fg : Nat → Nat} {g : Nat → Nat} {M : Mem} (hg : hC g (M 2)) (hk : gok g) (hM : MPg g M) (hO : OB n dr wt fg M) (hf : f < labN g) : ∀ (k i : Nat) (M1 : Mem), n - i = k → i ≤ n → FRA M M1 → (∀ j, j < i → figG g (dr j) f (wt j) = fg j) → G l α D cA uX3_agree none (d + 5) (fun r M1 => r = .inl (bI (dec (agr g n dr wt fg f))) ∧ FRA M M1) 3 [some (.inr 34), some (.inr 1), some (.inr 8), some (.inr 17), some (.inl (nI f)), some (.inl (nI i))] [] M1 := by
  intro k
  induction k using Nat.strongRecOn with
  | _ k ih => ?_
  intro i M1 hk2 hi hF hj
  have hO1 := OB_A hO hF
  have hn6 := hO.2.1
  refine G_iload dX3_agree_3 rfl ?_
  refine G_aload_n dX3_agree_5 rfl rfl ?_
  refine G_getI (v := (nI n)) dX3_agree_6 fX3_21 rfl rfl hO1.1 ?_
  refine Gn_icmp_ge (tgt := 63) dX3_agree_9 (by decide) (by omega) (by omega) (fun h9 => ?_) (fun h9 => ?_)
  · refine G_iconst (v := (nI 1)) dX3_agree_63 (by decide) ?_
    refine G_iret dX3_agree_64 rfl (by decide) ?_
    exact ⟨congrArg Sum.inl (bI_dt (fun j hj2 => hj j (by omega))), hF⟩
  · refine G_aload_n dX3_agree_12 rfl rfl ?_
    refine G_aload_n dX3_agree_13 rfl rfl ?_
    refine G_aload_n dX3_agree_14 rfl rfl ?_
    refine G_iload dX3_agree_15 rfl ?_
    refine G_aload_n dX3_agree_17 rfl rfl ?_
    refine G_getR (j := 35) dX3_agree_18 fX3_9 rfl rfl ?_
    refine G_iload dX3_agree_21 rfl ?_
    refine G_callSi (ν := uX9_at) (As := [.inr 35, .inl (nI i)]) dX3_agree_23 nX3_35 kX9_at rfl rfl rfl (Nat.le_of_ble_eq_true rfl) (c_at (o := 35) (n := 6) rfl (by decide) (by omega)) ?_
    rintro _ M5 ⟨rfl, e9⟩
    subst M5
    rw [((hO1).2.2 i (by omega)).1.1]
    refine G_callVv (ν := uX5_lay) (As := [.inr 1, .inr 8, .inl (nI f), .inl (nI (dr i))]) dX3_agree_26 nX3_39 kX5_lay rfl rfl rfl rfl rfl (Nat.le_of_ble_eq_true rfl) (c_layG (hC_A hg hF) hk (MPg_A hM hF) hf (hO.2.2 i (by omega)).1.2) ?_
    rintro _ M8 ⟨hF8, hS8⟩
    refine G_aload_n dX3_agree_29 rfl rfl ?_
    refine G_aload_n dX3_agree_30 rfl rfl ?_
    refine G_aload_n dX3_agree_31 rfl rfl ?_
    refine G_getR (j := 36) dX3_agree_32 fX3_15 rfl rfl ?_
    refine G_iload dX3_agree_35 rfl ?_
    refine G_callSi (ν := uX9_at) (As := [.inr 36, .inl (nI i)]) dX3_agree_37 nX3_35 kX9_at rfl rfl rfl (Nat.le_of_ble_eq_true rfl) (c_at (o := 36) (n := 6) rfl (by decide) (by omega)) ?_
    rintro _ M5 ⟨rfl, e9⟩
    subst M5
    rw [(((OB_A hO1 hF8)).2.2 i (by omega)).2.1.1]
    refine G_callVi (ν := uX5_figure) (As := [.inr 1, .inl (nI (wt i))]) dX3_agree_40 nX3_45 kX5_figure rfl rfl rfl rfl rfl (Nat.le_of_ble_eq_true rfl) (c_figG (hC_A (hC_A hg hF) hF8) hk hS8 (hO.2.2 i (by omega)).2.1.2) ?_
    rintro _ M7 ⟨rfl, hF7⟩
    have hlt := figG_lt (w := dr i) (f := f) hk (hO.2.2 i (by omega)).2.1.2
    refine G_aload_n dX3_agree_43 rfl rfl ?_
    refine G_getR (j := 37) dX3_agree_44 fX3_18 rfl rfl ?_
    refine G_iload dX3_agree_47 rfl ?_
    refine G_callSi (ν := uX9_at) (As := [.inr 37, .inl (nI i)]) dX3_agree_49 nX3_35 kX9_at rfl rfl rfl (Nat.le_of_ble_eq_true rfl) (c_at (o := 37) (n := 6) rfl (by decide) (by omega)) ?_
    rintro _ M5 ⟨rfl, e9⟩
    subst M5
    rw [(((OB_A (OB_A hO1 hF8) hF7)).2.2 i (by omega)).2.2.1]
    have h99 := (hO.2.2 i (by omega)).2.2.2
    refine Gn_icmp_eq (tgt := 57) dX3_agree_52 (by decide) (by omega) (by omega) (fun h52 => ?_) (fun h52 => ?_)
    · refine G_iinc (v := (nI (i + 1))) (L2 := [some (.inr 34), some (.inr 1), some (.inr 8), some (.inr 17), some (.inl (nI f)), some (.inl (nI (i + 1)))]) dX3_agree_57 rfl (nI_1 _) rfl ?_
      refine G_goto (tgt := 3) dX3_agree_60 (by decide) ?_
      exact ih (n - (i + 1)) (by omega) (i + 1) M7 rfl (by omega) (FRA_t hF (FRA_t hF8 hF7)) (fun j hj2 => by
        rcases (show j < i ∨ j = i by omega) with z | z
        · exact hj j z
        · rw [z]; exact h52)
    · refine G_iconst (v := (nI 0)) dX3_agree_55 (by decide) ?_
      refine G_iret dX3_agree_56 rfl (by decide) ?_
      exact ⟨congrArg Sum.inl (bI_df (fun z => h52 (z i (by omega)))), FRA_t hF (FRA_t hF8 hF7)⟩
theorem c_agree {d f n : Nat} {dr wt fg : Nat → Nat} {g : Nat → Nat} {M : Mem} (hg : hC g (M 2)) (hk : gok g) (hM : MPg g M) (hO : OB n dr wt fg M) (hf : f < labN g) : Call l α D cA uX3_agree (d + 5) [.inr 34, .inr 1, .inr 8, .inr 17, .inl (nI f)] M (fun r M1 => r = .inl (bI (dec (agr g n dr wt fg f))) ∧ FRA M M1) := by
  refine Call.of kX3_agree.1 (Nat.le_of_ble_eq_true rfl) ?_
  refine G_iconst (v := (nI 0)) dX3_agree_0 (by decide) ?_
  refine G_istore (L2 := [some (.inr 34), some (.inr 1), some (.inr 8), some (.inr 17), some (.inl (nI f)), some (.inl (nI 0))]) dX3_agree_1 (Nat.le_of_ble_eq_true rfl) rfl ?_
  exact l_agree hg hk hM hO hf _ 0 M rfl (Nat.zero_le _) FRA_r (fun j hj => absurd hj (Nat.not_lt_zero _))
end P20
