/-! SewnFields: paints -/
section P27
variable {l : Launch} {α : Nat → Nat} {D : va_G} {cA : Nat → ClassId}
def oth (g : Nat → Nat) (x y x2 y2 c p : Nat) : Bool := rct x y x2 y2 p && decide (g (12 + p) ≠ c)
theorem rct_t {x y x2 y2 u v : Nat} (hu : u < 8) (h1 : x ≤ u) (h2 : u ≤ x2) (h3 : y ≤ v) (h4 : v ≤ y2) : rct x y x2 y2 (8 * v + u) = true := decide_eq_true (by omega)
theorem oth_n {g : Nat → Nat} {x y x2 y2 c p : Nat} (h : ¬ ((x ≤ p % 8 ∧ p % 8 ≤ x2) ∧ y ≤ p / 8 ∧ p / 8 ≤ y2)) : oth g x y x2 y2 c p = false := by
  unfold oth rct
  rw [decide_eq_false h]
  rfl
theorem oth_1 {g : Nat → Nat} {x y x2 y2 c u v : Nat} (hu : u < 8) (h1 : x ≤ u) (h2 : u ≤ x2) (h3 : y ≤ v) (h4 : v ≤ y2) (h : ¬ g (12 + (8 * v + u)) = c) : fb_ct (oth g x y x2 y2 c) (8 * v + u) + 1 = fb_ct (oth g x y x2 y2 c) (8 * v + (u + 1)) := by
  rw [show 8 * v + (u + 1) = 8 * v + u + 1 by omega, fb_ct_succ]
  unfold oth
  rw [rct_t hu h1 h2 h3 h4, decide_eq_true h]
  rfl
theorem oth_0 {g : Nat → Nat} {x y x2 y2 c u v : Nat} (h : g (12 + (8 * v + u)) = c) : fb_ct (oth g x y x2 y2 c) (8 * v + u) = fb_ct (oth g x y x2 y2 c) (8 * v + (u + 1)) := by
  rw [show 8 * v + (u + 1) = 8 * v + u + 1 by omega, fb_ct_succ]
  unfold oth
  rw [show decide (g (12 + (8 * v + u)) ≠ c) = false from decide_eq_false (fun q => q h), Bool.and_false]
  rfl
/-- painted up to place N -/
def pntP (g : Nat → Nat) (x y x2 y2 c N : Nat) : Nat → Nat := fun j => if 12 ≤ j ∧ (rct x y x2 y2 (j - 12) = true ∧ j - 12 < N) then c else g j
theorem pntP_n {g : Nat → Nat} {x y x2 y2 c a b : Nat} (h : a ≤ b) (hz : ∀ p, a ≤ p → p < b → ¬ ((x ≤ p % 8 ∧ p % 8 ≤ x2) ∧ y ≤ p / 8 ∧ p / 8 ≤ y2)) : pntP g x y x2 y2 c a = pntP g x y x2 y2 c b := by
  funext j
  unfold pntP
  by_cases h1 : 12 ≤ j ∧ (rct x y x2 y2 (j - 12) = true ∧ j - 12 < a)
  · rw [if_pos h1, if_pos ⟨h1.1, h1.2.1, by omega⟩]
  · rw [if_neg h1, if_neg]
    rintro ⟨h2, h3, h4⟩
    refine h1 ⟨h2, h3, ?_⟩
    rcases Nat.lt_or_ge (j - 12) a with z | z
    · exact z
    · exact absurd (of_decide_eq_true h3) (hz _ z h4)
theorem pntP_s {g : Nat → Nat} {x y x2 y2 c u v : Nat} {f : Nat → Int32} (hu : u < 8) (h1 : x ≤ u) (h2 : u ≤ x2) (h3 : y ≤ v) (h4 : v ≤ y2) (hg : hC (pntP g x y x2 y2 c (8 * v + u)) f) : hC (pntP g x y x2 y2 c (8 * v + (u + 1))) (upd f (12 + (8 * v + u)) (nI c)) := fun j hj => by
  unfold upd
  have ht := rct_t hu h1 h2 h3 h4
  by_cases e : j = 12 + (8 * v + u)
  · subst e
    rw [if_pos rfl, pntP, if_pos ⟨by omega, by rw [Nat.add_sub_cancel_left]; exact ht, by omega⟩]
  · rw [if_neg e, hg j hj]
    unfold pntP
    by_cases z : 12 ≤ j ∧ (rct x y x2 y2 (j - 12) = true ∧ j - 12 < 8 * v + u)
    · rw [if_pos z, if_pos ⟨z.1, z.2.1, by omega⟩]
    · rw [if_neg z, if_neg (fun q => z ⟨q.1, q.2.1, by omega⟩)]
theorem pntP_0 {g : Nat → Nat} {x y x2 y2 c : Nat} : pntP g x y x2 y2 c 0 = g := by
  funext j
  unfold pntP
  rw [if_neg (fun q => Nat.not_lt_zero _ q.2.2)]
theorem pntP_48 {g : Nat → Nat} {x y x2 y2 c j : Nat} (hj : j < 60) : pntP g x y x2 y2 c 48 j = pntG g x y x2 y2 c j := by
  unfold pntP pntG
  by_cases z : 12 ≤ j ∧ rct x y x2 y2 (j - 12) = true
  · rw [if_pos z, if_pos ⟨z.1, z.2, by omega⟩]
  · rw [if_neg z, if_neg (fun q => z ⟨q.1, q.2.1⟩)]
theorem l_cocI {d x y x2 y2 c : Nat} {g : Nat → Nat} {M : Mem} (hg : hC g (M 2)) (h9 : g9 g) (hx2 : x2 < 8) (hy2 : y2 < 6) (hc : c ≤ 3) (hxx : x ≤ x2) (hyy : y ≤ y2) {v : Nat} {Q : AV → Mem → Prop} (hyv : y ≤ v) (hv : v ≤ y2) (out : ∀ x8 : Option AV, G l α D cA uX9_cellsOfOtherColour none (d + 2) Q 50 [some (.inr 0), some (.inl (nI x)), some (.inl (nI y)), some (.inl (nI x2)), some (.inl (nI y2)), some (.inl (nI c)), some (.inl (nI (fb_ct (oth g x y x2 y2 c) (8 * v + (x2 + 1))))), some (.inl (nI v)), x8] [] M) : ∀ k u : Nat, x2 + 1 - u = k → x ≤ u → u ≤ x2 + 1 → G l α D cA uX9_cellsOfOtherColour none (d + 2) Q 16 [some (.inr 0), some (.inl (nI x)), some (.inl (nI y)), some (.inl (nI x2)), some (.inl (nI y2)), some (.inl (nI c)), some (.inl (nI (fb_ct (oth g x y x2 y2 c) (8 * v + u)))), some (.inl (nI v)), some (.inl (nI u))] [] M := by
  intro k
  induction k using Nat.strongRecOn with
  | _ k ih => ?_
  intro u hk hxu hu
  refine G_iload dX9_cellsOfOtherColour_16 rfl ?_
  refine G_iload_n dX9_cellsOfOtherColour_18 rfl rfl ?_
  refine Gn_icmp_gt (tgt := 50) dX9_cellsOfOtherColour_19 (by decide) (by omega) (by omega) (fun h19 => ?_) (fun h19 => ?_)
  · have e : u = x2 + 1 := by omega
    subst e
    exact out _
  · refine G_aload_n dX9_cellsOfOtherColour_22 rfl rfl ?_
    refine G_getR (j := 1) dX9_cellsOfOtherColour_23 fX9_12 rfl rfl ?_
    refine G_iload dX9_cellsOfOtherColour_26 rfl ?_
    refine G_iload dX9_cellsOfOtherColour_28 rfl ?_
    refine G_callSi (ν := uX9_placeOf) (As := [.inl (nI u), .inl (nI v)]) dX9_cellsOfOtherColour_30 nX9_115 kX9_placeOf rfl rfl rfl (Nat.le_of_ble_eq_true rfl) (c_placeOf (x := u) (y := v) (by omega) (by omega)) ?_
    rintro _ M8 ⟨rfl, e9⟩
    subst M8
    refine G_callVi (ν := uX0_colourAt) (As := [.inl (nI (8 * v + u))]) dX9_cellsOfOtherColour_33 nX9_132 kX0_colourAt rfl rfl rfl rfl rfl (Nat.le_of_ble_eq_true rfl) (c_colourAt (o := 1) (v := 2) rfl rfl hg (by omega)) ?_
    rintro _ M8 ⟨rfl, e9⟩
    subst M8
    have hb9 := h9 (12 + (8 * v + u)) (by omega)
    refine G_iload dX9_cellsOfOtherColour_36 rfl ?_
    refine Gn_icmp_eq (tgt := 44) dX9_cellsOfOtherColour_38 (by decide) (by omega) (by omega) (fun h38 => ?_) (fun h38 => ?_)
    · refine G_iinc (v := (nI (u + 1))) (L2 := [some (.inr 0), some (.inl (nI x)), some (.inl (nI y)), some (.inl (nI x2)), some (.inl (nI y2)), some (.inl (nI c)), some (.inl (nI (fb_ct (oth g x y x2 y2 c) (8 * v + u)))), some (.inl (nI v)), some (.inl (nI (u + 1)))]) dX9_cellsOfOtherColour_44 rfl (nI_1 _) rfl ?_
      refine G_goto (tgt := 16) dX9_cellsOfOtherColour_47 (by decide) ?_
      rw [oth_0 h38]
      exact ih (x2 + 1 - (u + 1)) (by omega) (u + 1) rfl (by omega) (by omega)
    · refine G_iinc (v := (nI (fb_ct (oth g x y x2 y2 c) (8 * v + u) + 1))) (L2 := [some (.inr 0), some (.inl (nI x)), some (.inl (nI y)), some (.inl (nI x2)), some (.inl (nI y2)), some (.inl (nI c)), some (.inl (nI (fb_ct (oth g x y x2 y2 c) (8 * v + u) + 1))), some (.inl (nI v)), some (.inl (nI u))]) dX9_cellsOfOtherColour_41 rfl (nI_1 _) rfl ?_
      refine G_iinc (v := (nI (u + 1))) (L2 := [some (.inr 0), some (.inl (nI x)), some (.inl (nI y)), some (.inl (nI x2)), some (.inl (nI y2)), some (.inl (nI c)), some (.inl (nI (fb_ct (oth g x y x2 y2 c) (8 * v + u) + 1))), some (.inl (nI v)), some (.inl (nI (u + 1)))]) dX9_cellsOfOtherColour_44 rfl (nI_1 _) rfl ?_
      refine G_goto (tgt := 16) dX9_cellsOfOtherColour_47 (by decide) ?_
      rw [oth_1 (by omega) hxu (by omega) hyv (by omega) h38]
      exact ih (x2 + 1 - (u + 1)) (by omega) (u + 1) rfl (by omega) (by omega)
theorem l_cocO {d x y x2 y2 c : Nat} {g : Nat → Nat} {M : Mem} (hg : hC g (M 2)) (h9 : g9 g) (hx2 : x2 < 8) (hy2 : y2 < 6) (hc : c ≤ 3) (hxx : x ≤ x2) (hyy : y ≤ y2) : ∀ (k v : Nat) (x8 : Option AV), y2 + 1 - v = k → y ≤ v → v ≤ y2 + 1 → G l α D cA uX9_cellsOfOtherColour none (d + 2) (fun r M1 => r = .inl (nI (fb_ct (oth g x y x2 y2 c) 48)) ∧ M1 = M) 6 [some (.inr 0), some (.inl (nI x)), some (.inl (nI y)), some (.inl (nI x2)), some (.inl (nI y2)), some (.inl (nI c)), some (.inl (nI (fb_ct (oth g x y x2 y2 c) (8 * v)))), some (.inl (nI v)), x8] [] M := by
  intro k
  induction k using Nat.strongRecOn with
  | _ k ih => ?_
  intro v x8 hk hyv hv
  refine G_iload dX9_cellsOfOtherColour_6 rfl ?_
  refine G_iload dX9_cellsOfOtherColour_8 rfl ?_
  refine Gn_icmp_gt (tgt := 56) dX9_cellsOfOtherColour_10 (by decide) (by omega) (by omega) (fun h10 => ?_) (fun h10 => ?_)
  · refine G_iload dX9_cellsOfOtherColour_56 rfl ?_
    refine G_iret dX9_cellsOfOtherColour_58 rfl rfl ?_
    have e : v = y2 + 1 := by omega
    subst e
    exact ⟨by rw [ct_gap (a := 8 * (y2 + 1)) (b := 48) (by omega) (fun p _ _ => oth_n (by omega))], rfl⟩
  · refine G_iload_n dX9_cellsOfOtherColour_13 rfl rfl ?_
    refine G_istore (L2 := [some (.inr 0), some (.inl (nI x)), some (.inl (nI y)), some (.inl (nI x2)), some (.inl (nI y2)), some (.inl (nI c)), some (.inl (nI (fb_ct (oth g x y x2 y2 c) (8 * v)))), some (.inl (nI v)), some (.inl (nI x))]) dX9_cellsOfOtherColour_14 (Nat.le_of_ble_eq_true rfl) rfl ?_
    rw [show fb_ct (oth g x y x2 y2 c) (8 * v) = fb_ct (oth g x y x2 y2 c) (8 * v + x) from ct_gap (by omega) (fun p _ _ => oth_n (by omega))]
    refine l_cocI hg h9 hx2 hy2 hc hxx hyy hyv (by omega) (fun x8 => ?_) _ x rfl (Nat.le_refl _) (by omega)
    refine G_iinc (v := (nI (v + 1))) (L2 := [some (.inr 0), some (.inl (nI x)), some (.inl (nI y)), some (.inl (nI x2)), some (.inl (nI y2)), some (.inl (nI c)), some (.inl (nI (fb_ct (oth g x y x2 y2 c) (8 * v + (x2 + 1))))), some (.inl (nI (v + 1))), x8]) dX9_cellsOfOtherColour_50 rfl (nI_1 _) rfl ?_
    refine G_goto (tgt := 6) dX9_cellsOfOtherColour_53 (by decide) ?_
    rw [show fb_ct (oth g x y x2 y2 c) (8 * v + (x2 + 1)) = fb_ct (oth g x y x2 y2 c) (8 * (v + 1)) from ct_gap (by omega) (fun p _ _ => oth_n (by omega))]
    exact ih (y2 + 1 - (v + 1)) (by omega) (v + 1) _ rfl (by omega) (by omega)
theorem c_coc {d x y x2 y2 c : Nat} {g : Nat → Nat} {M : Mem} (hg : hC g (M 2)) (h9 : g9 g) (hx2 : x2 < 8) (hy2 : y2 < 6) (hc : c ≤ 3) (hxx : x ≤ x2) (hyy : y ≤ y2) : Call l α D cA uX9_cellsOfOtherColour (d + 2) [.inr 0, .inl (nI x), .inl (nI y), .inl (nI x2), .inl (nI y2), .inl (nI c)] M (fun r M1 => r = .inl (nI (fb_ct (oth g x y x2 y2 c) 48)) ∧ M1 = M) := by
  refine Call.of kX9_cellsOfOtherColour.1 (Nat.le_of_ble_eq_true rfl) ?_
  refine G_iconst (v := (nI 0)) dX9_cellsOfOtherColour_0 (by decide) ?_
  refine G_istore (L2 := [some (.inr 0), some (.inl (nI x)), some (.inl (nI y)), some (.inl (nI x2)), some (.inl (nI y2)), some (.inl (nI c)), some (.inl (nI 0)), none, none]) dX9_cellsOfOtherColour_1 (Nat.le_of_ble_eq_true rfl) rfl ?_
  refine G_iload_n dX9_cellsOfOtherColour_3 rfl rfl ?_
  refine G_istore (L2 := [some (.inr 0), some (.inl (nI x)), some (.inl (nI y)), some (.inl (nI x2)), some (.inl (nI y2)), some (.inl (nI c)), some (.inl (nI 0)), some (.inl (nI y)), none]) dX9_cellsOfOtherColour_4 (Nat.le_of_ble_eq_true rfl) rfl ?_
  rw [show nI 0 = nI (fb_ct (oth g x y x2 y2 c) (8 * y)) by rw [← ct_gap (a := 0) (b := 8 * y) (by omega) (fun p _ _ => oth_n (by omega))]; rfl]
  exact l_cocO hg h9 hx2 hy2 hc hxx hyy _ y _ rfl (Nat.le_refl _) (by omega)
theorem l_pntI {d x y x2 y2 c n : Nat} {g : Nat → Nat} {M : Mem} (hk : gok g) (hx2 : x2 < g 0) (hy2 : y2 < g 1) (hc : c ≤ 3) (hxx : x ≤ x2) (hyy : y ≤ y2) (n48 : n ≤ 48) {v : Nat} {Q : AV → Mem → Prop} (hyv : y ≤ v) (hv : v ≤ y2) (out : ∀ (x8 : Option AV) (M1 : Mem), (∀ q, q ≠ 2 → M1 q = M q) → hC (pntP g x y x2 y2 c (8 * v + (x2 + 1))) (M1 2) → G l α D cA uX9_paints none (d + 4) Q 121 [some (.inr 0), some (.inl (nI x)), some (.inl (nI y)), some (.inl (nI x2)), some (.inl (nI y2)), some (.inl (nI c)), some (.inl (nI n)), some (.inl (nI v)), x8] [] M1) : ∀ (k u : Nat) (M1 : Mem), x2 + 1 - u = k → x ≤ u → u ≤ x2 + 1 → (∀ q, q ≠ 2 → M1 q = M q) → hC (pntP g x y x2 y2 c (8 * v + u)) (M1 2) → G l α D cA uX9_paints none (d + 4) Q 93 [some (.inr 0), some (.inl (nI x)), some (.inl (nI y)), some (.inl (nI x2)), some (.inl (nI y2)), some (.inl (nI c)), some (.inl (nI n)), some (.inl (nI v)), some (.inl (nI u))] [] M1 := by
  have h8 := hk.1.2
  have h6 := hk.2.1.2
  intro k
  induction k using Nat.strongRecOn with
  | _ k ih => ?_
  intro u M1 hk hxu hu hF hg
  refine G_iload dX9_paints_93 rfl ?_
  refine G_iload_n dX9_paints_95 rfl rfl ?_
  refine Gn_icmp_gt (tgt := 121) dX9_paints_96 (by decide) (by omega) (by omega) (fun h96 => ?_) (fun h96 => ?_)
  · have e : u = x2 + 1 := by omega
    subst e
    exact out _ _ hF hg
  · refine G_aload_n dX9_paints_99 rfl rfl ?_
    refine G_getR (j := 1) dX9_paints_100 fX9_12 rfl rfl ?_
    refine G_iload dX9_paints_103 rfl ?_
    refine G_iload dX9_paints_105 rfl ?_
    refine G_callSi (ν := uX9_placeOf) (As := [.inl (nI u), .inl (nI v)]) dX9_paints_107 nX9_115 kX9_placeOf rfl rfl rfl (Nat.le_of_ble_eq_true rfl) (c_placeOf (x := u) (y := v) (by omega) (by omega)) ?_
    rintro _ M8 ⟨rfl, e9⟩
    subst M8
    refine G_iload dX9_paints_110 rfl ?_
    refine G_callVv (ν := uX0_paint) (As := [.inl (nI (8 * v + u)), .inl (nI c)]) dX9_paints_112 nX9_119 kX0_paint rfl rfl rfl rfl rfl (Nat.le_of_ble_eq_true rfl) (c_paint (o := 1) (v := 2) rfl rfl (by omega)) ?_
    rintro _ M8 e9
    subst M8
    refine G_iinc (v := (nI (u + 1))) (L2 := [some (.inr 0), some (.inl (nI x)), some (.inl (nI y)), some (.inl (nI x2)), some (.inl (nI y2)), some (.inl (nI c)), some (.inl (nI n)), some (.inl (nI v)), some (.inl (nI (u + 1)))]) dX9_paints_115 rfl (nI_1 _) rfl ?_
    refine G_goto (tgt := 93) dX9_paints_118 (by decide) ?_
    refine ih (x2 + 1 - (u + 1)) (by omega) (u + 1) _ rfl (by omega) (by omega) (fun q a => by rw [mo_q a]; exact hF q a) ?_
    rw [mo_o]
    exact pntP_s (by omega) hxu (by omega) hyv hv hg
theorem l_pntO {d x y x2 y2 c n : Nat} {g : Nat → Nat} {M : Mem} (hk : gok g) (hx2 : x2 < g 0) (hy2 : y2 < g 1) (hc : c ≤ 3) (hxx : x ≤ x2) (hyy : y ≤ y2) (n48 : n ≤ 48) : ∀ (k v : Nat) (x8 : Option AV) (M1 : Mem), y2 + 1 - v = k → y ≤ v → v ≤ y2 + 1 → (∀ q, q ≠ 2 → M1 q = M q) → hC (pntP g x y x2 y2 c (8 * v)) (M1 2) → G l α D cA uX9_paints none (d + 4) (fun r M1 => r = .inl (nI n) ∧ (∀ q, q ≠ 2 → (q < 8 ∨ 15 < q) → M1 q = M q) ∧ hC (pntG g x y x2 y2 c) (M1 2) ∧ MPg (pntG g x y x2 y2 c) M1) 83 [some (.inr 0), some (.inl (nI x)), some (.inl (nI y)), some (.inl (nI x2)), some (.inl (nI y2)), some (.inl (nI c)), some (.inl (nI n)), some (.inl (nI v)), x8] [] M1 := by
  have h8 := hk.1.2
  have h6 := hk.2.1.2
  intro k
  induction k using Nat.strongRecOn with
  | _ k ih => ?_
  intro v x8 M1 hk hyv hv hF hg
  refine G_iload dX9_paints_83 rfl ?_
  refine G_iload dX9_paints_85 rfl ?_
  refine Gn_icmp_gt (tgt := 127) dX9_paints_87 (by decide) (by omega) (by omega) (fun h87 => ?_) (fun h87 => ?_)
  · have e : v = y2 + 1 := by omega
    subst e
    have hgG : hC (pntG g x y x2 y2 c) (M1 2) := fun j hj => by
      rw [hg j hj, pntP_n (a := 8 * (y2 + 1)) (b := 48) (by omega) (fun p _ _ => by omega), pntP_48 hj]
    refine G_aload_n dX9_paints_127 rfl rfl ?_
    refine G_getR (j := 8) dX9_paints_128 fX9_33 rfl rfl ?_
    refine G_aload_n dX9_paints_131 rfl rfl ?_
    refine G_getR (j := 1) dX9_paints_132 fX9_12 rfl rfl ?_
    refine G_callVv (ν := uX1_number) (As := [.inr 1]) dX9_paints_135 nX9_104 kX1_number rfl rfl rfl rfl rfl (Nat.le_of_ble_eq_true rfl) (c_number (g := pntG g x y x2 y2 c) hgG (gok_9 (gok_p (by assumption) hx2 hy2 hc))) ?_
    rintro _ Mb ⟨hFb, hMb⟩
    refine G_iload dX9_paints_138 rfl ?_
    refine G_iret dX9_paints_140 rfl rfl ?_
    exact ⟨rfl, fun q a b => by rw [hFb q b]; exact hF q a, by rw [hFb 2 (by decide)]; exact hgG, hMb⟩
  · refine G_iload_n dX9_paints_90 rfl rfl ?_
    refine G_istore (L2 := [some (.inr 0), some (.inl (nI x)), some (.inl (nI y)), some (.inl (nI x2)), some (.inl (nI y2)), some (.inl (nI c)), some (.inl (nI n)), some (.inl (nI v)), some (.inl (nI x))]) dX9_paints_91 (Nat.le_of_ble_eq_true rfl) rfl ?_
    rw [pntP_n (a := 8 * v) (b := 8 * v + x) (by omega) (fun p _ _ => by omega)] at hg
    refine l_pntI (by assumption) hx2 hy2 hc hxx hyy n48 hyv (by omega) (fun x8 M2 hF2 hg2 => ?_) _ x M1 rfl (Nat.le_refl _) (by omega) hF hg
    refine G_iinc (v := (nI (v + 1))) (L2 := [some (.inr 0), some (.inl (nI x)), some (.inl (nI y)), some (.inl (nI x2)), some (.inl (nI y2)), some (.inl (nI c)), some (.inl (nI n)), some (.inl (nI (v + 1))), x8]) dX9_paints_121 rfl (nI_1 _) rfl ?_
    refine G_goto (tgt := 83) dX9_paints_124 (by decide) ?_
    rw [pntP_n (a := 8 * v + (x2 + 1)) (b := 8 * (v + 1)) (by omega) (fun p _ _ => by omega)] at hg2
    exact ih (y2 + 1 - (v + 1)) (by omega) (v + 1) _ M2 rfl (by omega) (by omega) hF2 hg2
theorem G_mono {μ : MI} {sc : Option (Nat × (Nat → Int32))} {d pc : Nat} {Q Q' : AV → Mem → Prop} {L : List (Option AV)} {S : List AV} {M : Mem} (hq : ∀ r M1, Q r M1 → Q' r M1) (h : G l α D cA μ sc d Q pc L S M) : G l α D cA μ sc d Q' pc L S M := by
  intro p e s m args below meth c A cells slots R Qf hc
  refine h p e s m args below meth c A cells slots R Qf ?_
  obtain ⟨c1, c2, c3, c4, c5, c6, c7, c8, c9⟩ := hc
  exact ⟨c1, c2, c3, c4, c5, c6, c7, c8, fun r M1 H locs pc2 ls q => c9 r M1 H locs pc2 ls (hq r M1 q)⟩
theorem x_paints {d : Nat} {s : AS} {M : Mem} {x0 y0 z0 t0 c0 : Int32} (hX : XR s M) : Call l α D cA uX9_paints (d + 4) [.inr 0, .inl x0, .inl y0, .inl z0, .inl t0, .inl c0] M (PX M (nPaints s x0 y0 z0 t0 c0)) := by
  refine Call.of kX9_paints.1 (Nat.le_of_ble_eq_true rfl) ?_
  obtain ⟨hg, hk, hM⟩ := rec_x hX
  obtain ⟨nx, hH⟩ := hX.2.2.2.1
  refine G_aload_n dX9_paints_0 rfl rfl ?_
  refine G_getR (j := 1) dX9_paints_1 fX9_12 rfl rfl ?_
  refine G_iload_n dX9_paints_4 rfl rfl ?_
  refine G_iload_n dX9_paints_5 rfl rfl ?_
  refine G_callVi (ν := uX0_has) (As := [.inl x0, .inl y0]) dX9_paints_6 nX9_107 kX0_has rfl rfl rfl rfl rfl (Nat.le_of_ble_eq_true rfl) (c_hasG (g := s.2.1) hg hk) ?_
  rintro _ M8 ⟨rfl, e9⟩
  subst M8
  refine Gb_if_eq (tgt := 46) dX9_paints_9 (by decide) (fun h9 => ?_) (fun h9 => ?_)
  · refine G_iconst (v := ((-1))) dX9_paints_46 (by decide) ?_
    refine G_iret dX9_paints_47 rfl rfl ?_
    rw [nPaints, cI_f (fun q => notrue h9 q.1)]
    exact PX_r hX (fun _ _ => rfl)
  · refine G_aload_n dX9_paints_12 rfl rfl ?_
    refine G_getR (j := 1) dX9_paints_13 fX9_12 rfl rfl ?_
    refine G_iload_n dX9_paints_16 rfl rfl ?_
    refine G_iload dX9_paints_17 rfl ?_
    refine G_callVi (ν := uX0_has) (As := [.inl z0, .inl t0]) dX9_paints_19 nX9_107 kX0_has rfl rfl rfl rfl rfl (Nat.le_of_ble_eq_true rfl) (c_hasG (g := s.2.1) hg hk) ?_
    rintro _ M8 ⟨rfl, e9⟩
    subst M8
    refine Gb_if_eq (tgt := 46) dX9_paints_22 (by decide) (fun h22 => ?_) (fun h22 => ?_)
    · refine G_iconst (v := ((-1))) dX9_paints_46 (by decide) ?_
      refine G_iret dX9_paints_47 rfl rfl ?_
      rw [nPaints, cI_f (fun q => notrue h22 q.2.1)]
      exact PX_r hX (fun _ _ => rfl)
    · refine G_iload_n dX9_paints_25 rfl rfl ?_
      refine G_iload_n dX9_paints_26 rfl rfl ?_
      refine G_icmp_lt (tgt := 46) dX9_paints_27 (by decide) (fun h27 => ?_) (fun h27 => ?_)
      · refine G_iconst (v := ((-1))) dX9_paints_46 (by decide) ?_
        refine G_iret dX9_paints_47 rfl rfl ?_
        rw [nPaints, cI_f (fun q => q.2.2.1 h27)]
        exact PX_r hX (fun _ _ => rfl)
      · refine G_iload dX9_paints_30 rfl ?_
        refine G_iload_n dX9_paints_32 rfl rfl ?_
        refine G_icmp_lt (tgt := 46) dX9_paints_33 (by decide) (fun h33 => ?_) (fun h33 => ?_)
        · refine G_iconst (v := ((-1))) dX9_paints_46 (by decide) ?_
          refine G_iret dX9_paints_47 rfl rfl ?_
          rw [nPaints, cI_f (fun q => q.2.2.2.1 h33)]
          exact PX_r hX (fun _ _ => rfl)
        · refine G_iload dX9_paints_36 rfl ?_
          refine G_iconst (v := (nI 0)) dX9_paints_38 (by decide) ?_
          refine G_iconst (v := (nI 3)) dX9_paints_39 (by decide) ?_
          refine G_callSi (ν := uX9_within) (As := [.inl c0, .inl (nI 0), .inl (nI 3)]) dX9_paints_40 nX9_74 kX9_within rfl rfl rfl (Nat.le_of_ble_eq_true rfl) (c_withinI (lo := 0) (hi := 3)) ?_
          rintro _ M8 ⟨rfl, e9⟩
          subst M8
          refine Gb_if_ne (tgt := 48) dX9_paints_43 (by decide) (fun h43 => ?_) (fun h43 => ?_)
          · obtain ⟨x, y, hx, hy, rfl, rfl⟩ := hasD_nI h9 hk.1.1 hk.2.1.1 hk.1.2 hk.2.1.2
            obtain ⟨x2, y2, hx2, hy2, rfl, rfl⟩ := hasD_nI h22 hk.1.1 hk.2.1.1 hk.1.2 hk.2.1.2
            obtain ⟨c, -, hc, rfl⟩ := inI_nI (dec_iff.mp h43) (by decide) (by decide)
            have h8 := hk.1.2
            have h6 := hk.2.1.2
            have hxx : x ≤ x2 := Nat.le_of_not_lt (fun q => h27 (nI_lt q (by omega)))
            have hyy : y ≤ y2 := Nat.le_of_not_lt (fun q => h33 (nI_lt q (by omega)))
            refine G_aload_n dX9_paints_48 rfl rfl ?_
            refine G_iload_n dX9_paints_49 rfl rfl ?_
            refine G_iload_n dX9_paints_50 rfl rfl ?_
            refine G_iload_n dX9_paints_51 rfl rfl ?_
            refine G_iload dX9_paints_52 rfl ?_
            refine G_iload dX9_paints_54 rfl ?_
            refine G_callVi (ν := uX9_cellsOfOtherColour) (As := [.inl (nI x), .inl (nI y), .inl (nI x2), .inl (nI y2), .inl (nI c)]) dX9_paints_56 nX9_111 kX9_cellsOfOtherColour rfl rfl rfl rfl rfl (Nat.le_of_ble_eq_true rfl) (c_coc hg (gok_9 hk) (by omega) (by omega) hc hxx hyy) ?_
            rintro _ M8 ⟨rfl, e9⟩
            subst M8
            rw [show fb_ct (oth s.2.1 x y x2 y2 c) 48 = pntC s.2.1 x y x2 y2 c from rfl]
            have hp48 : pntC s.2.1 x y x2 y2 c ≤ 48 := fb_ct_le _ _
            refine G_istore (L2 := [some (.inr 0), some (.inl (nI x)), some (.inl (nI y)), some (.inl (nI x2)), some (.inl (nI y2)), some (.inl (nI c)), some (.inl (nI (pntC s.2.1 x y x2 y2 c))), none, none]) dX9_paints_59 (Nat.le_of_ble_eq_true rfl) rfl ?_
            refine G_iload dX9_paints_61 rfl ?_
            refine Gn_if_ne (tgt := 69) dX9_paints_63 (by decide) (by omega) (fun h63 => ?_) (fun h63 => ?_)
            · refine G_aload_n dX9_paints_69 rfl rfl ?_
              refine G_getR (j := 38) dX9_paints_70 fX9_61 rfl rfl ?_
              refine G_aload_n dX9_paints_73 rfl rfl ?_
              refine G_getR (j := 1) dX9_paints_74 fX9_12 rfl rfl ?_
              refine G_callVv (ν := uX2_push) (As := [.inr 1]) dX9_paints_77 nX9_93 kX2_push rfl rfl rfl rfl rfl (Nat.le_of_ble_eq_true rfl) (c_push hg hH) ?_
              rintro _ Ma ⟨hFa, hHa⟩
              refine G_iload_n dX9_paints_80 rfl rfl ?_
              refine G_istore (L2 := [some (.inr 0), some (.inl (nI x)), some (.inl (nI y)), some (.inl (nI x2)), some (.inl (nI y2)), some (.inl (nI c)), some (.inl (nI (pntC s.2.1 x y x2 y2 c))), some (.inl (nI y)), none]) dX9_paints_81 (Nat.le_of_ble_eq_true rfl) rfl ?_
              refine G_mono ?_ (l_pntO hk hx2 hy2 hc hxx hyy hp48 _ y _ Ma rfl (Nat.le_refl _) (by omega) (fun _ _ => rfl) ?_)
              · rintro _ Mb ⟨rfl, hFb, hgb, hMb⟩
                rw [nPaints, cI_t ⟨h9, h22, h27, h33, dec_iff.mp h43⟩, nN (by omega), nN (by omega), nN (by omega), nN (by omega), nN (by omega), if_neg h63]
                refine PX_r (XR_push hX (gok_p hk hx2 hy2 hc) (TX_3 hX.2.1 ?_ ?_) hgb hMb (HX_k hHa ?_ ?_) ?_) ?_
                · rw [hFb 4 (by decide) (by decide)]; exact hFa 4 (by decide) (by decide)
                · rw [hFb 3 (by decide) (by decide), hFa 3 (by decide) (by decide)]
                · exact hFb 38 (by decide) (by decide)
                · exact fun q a b => hFb q (by omega) (by omega)
                · exact fun q hq => by rw [hFb q (by omega) (by omega)]; exact hFa q (by omega) (by omega)
                · exact fun q hq => by rw [hFb q (by omega) (by omega)]; exact hFa q (by omega) (by omega)
              · rw [← pntP_n (a := 0) (b := 8 * y) (by omega) (fun p _ _ => by omega), pntP_0, hFa 2 (by decide) (by decide)]
                exact hg
            · refine G_bipush (v := ((-2))) dX9_paints_66 (by decide) ?_
              refine G_iret dX9_paints_68 rfl rfl ?_
              rw [nPaints, cI_t ⟨h9, h22, h27, h33, dec_iff.mp h43⟩, nN (by omega), nN (by omega), nN (by omega), nN (by omega), nN (by omega), if_pos h63]
              exact PX_r hX (fun _ _ => rfl)
          · refine G_iconst (v := ((-1))) dX9_paints_46 (by decide) ?_
            refine G_iret dX9_paints_47 rfl rfl ?_
            rw [nPaints, cI_f (fun q => dec_niff.mp h43 q.2.2.2.2)]
            exact PX_r hX (fun _ _ => rfl)
end P27
