/-! The reference: sizes, counts, fields that touch -/
section P30
variable {l : Launch} {α : Nat → Nat} {D : va_G} {cA : Nat → ClassId}
theorem ct_row {P : Nat → Bool} {w : Nat} (h1 : 1 ≤ w) (h8 : w ≤ 8) (hP : ∀ p, P p = true → p % 8 < w) : ∀ k, fb_ct (fun c => P (pl w c)) (w * k) = fb_ct P (8 * k) := by
  intro k
  induction k with
  | zero => rfl
  | succ k ih =>
    rw [Nat.mul_add, Nat.mul_one, fb_ct_split, ih, show 8 * (k + 1) = 8 * k + 8 by omega, fb_ct_split]
    refine congrArg (fb_ct P (8 * k) + ·) ?_
    refine Eq.trans (fb_ct_cong (q := fun x => P (8 * k + x)) (fun x hx => ?_)) (ct_gap h8 (fun x a b => ?_))
    · have e : pl w (w * k + x) = 8 * k + x := by
        unfold pl
        rw [Nat.mul_add_div (by omega), Nat.mul_add_mod, Nat.div_eq_of_lt hx, Nat.mod_eq_of_lt hx]
        omega
      show P (pl w (w * k + x)) = P (8 * k + x)
      rw [e]
    · cases hz : P (8 * k + x) with
      | false => rfl
      | true => have := hP _ hz; omega
theorem ct_pl {g : Nat → Nat} {P : Nat → Bool} (hk : gok g) (hP : ∀ p, p < 48 → P p = true → p % 8 < g 0 ∧ p / 8 < g 1) : fb_ct (fun c => P (pl (g 0) c)) (g 0 * g 1) = fb_ct P 48 := by
  have h6 := hk.2.1.2
  have key := ct_row (P := fun p => P p && decide (p < 48)) (w := g 0) hk.1.1 hk.1.2 (fun p h => by rw [Bool.and_eq_true] at h; exact (hP p (of_decide_eq_true h.2) h.1).1) (g 1)
  rw [fb_ct_cong (q := fun c => P (pl (g 0) c) && decide (pl (g 0) c < 48)) (fun c hc => ?_)]
  · rw [key]
    rw [ct_gap (a := 8 * g 1) (b := 48) (by omega) (fun p a b => ?_)]
    · exact fb_ct_cong (fun p hp => by rw [decide_eq_true hp, Bool.and_true])
    · cases hz : P p with
      | false => rfl
      | true => have := (hP p b hz).2; omega
  · rw [decide_eq_true (pl_g hk hc), Bool.and_true]
theorem labF_g {g : Nat → Nat} {q f : Nat} (h : labF g q = some f) : g (12 + q) ≠ 0 ∧ f < labN g := by
  obtain ⟨h1, h2, h3, h4, h5⟩ := labF_inv g
  have hf := h2 q f h
  have := (h3 f hf)
  have c := (this.2.2.1 q).mp h
  exact ⟨by rw [conn_col c]; exact this.2.1, hf⟩
theorem labF_in {g : Nat → Nat} (hk : gok g) {q f : Nat} (hq : q < 48) (h : labF g q = some f) : q % 8 < g 0 ∧ q / 8 < g 1 := (hk.2.2.2.2.2 q hq).2 (labF_g h).1
theorem fsz_is {g : Nat → Nat} (hk : gok g) {f : Nat} (hf : f < labN g) : fb_ct (fun c => dec (labF g (pl (g 0) c) = some f)) (g 0 * g 1) = fsz g f := by
  rw [ct_pl (P := fun q => dec (labF g q = some f)) hk (fun p hp h => labF_in hk hp (dec_iff.mp h))]
  unfold fsz
  exact fb_ct_cong (fun q _ => dec_eq (((labF_inv g).2.2.1 f hf).2.2.1 q))
theorem colo_is {g : Nat → Nat} (hk : gok g) : fb_ct (fun c => dec (g (12 + pl (g 0) c) ≠ 0)) (g 0 * g 1) = fb_ct (fun q => (labF g q).isSome) 48 := by
  rw [ct_pl (P := fun q => dec (g (12 + q) ≠ 0)) hk (fun p hp h => (hk.2.2.2.2.2 p hp).2 (dec_iff.mp h))]
  refine fb_ct_cong (fun q hq => ?_)
  by_cases z : g (12 + q) ≠ 0
  · rw [dec_t z]
    obtain ⟨f, hf⟩ := (labF_inv g).2.2.2.1 q hq z
    rw [hf]; rfl
  · rw [dec_f z]
    cases hz : labF g q with
    | none => rfl
    | some f => exact absurd (labF_g hz).1 z
/-- fields f and x lie beside each other -/
def tcn (g : Nat → Nat) (f x a b : Nat) : Prop := ∃ a' b', a' < g 0 * g 1 ∧ b' < g 0 * g 1 ∧ (a' < a ∨ (a' = a ∧ b' < b)) ∧ labF g (pl (g 0) a') = some f ∧ labF g (pl (g 0) b') = some x ∧ bsd (g 0) a' b'
theorem tcn_s {g : Nat → Nat} {f x a b : Nat} (ha : a < g 0 * g 1) (hb : b < g 0 * g 1) : tcn g f x a (b + 1) ↔ tcn g f x a b ∨ (labF g (pl (g 0) a) = some f ∧ labF g (pl (g 0) b) = some x ∧ bsd (g 0) a b) := by
  constructor
  · rintro ⟨a', b', h1, h2, h3, h4⟩
    by_cases e : a' = a ∧ b' = b
    · obtain ⟨rfl, rfl⟩ := e
      exact Or.inr h4
    · exact Or.inl ⟨a', b', h1, h2, by omega, h4⟩
  · rintro (⟨a', b', h1, h2, h3, h4⟩ | h)
    · exact ⟨a', b', h1, h2, by omega, h4⟩
    · exact ⟨a, b, ha, hb, Or.inr ⟨rfl, by omega⟩, h⟩
theorem tcn_n {g : Nat → Nat} {f x a : Nat} : tcn g f x a (g 0 * g 1) ↔ tcn g f x (a + 1) 0 := by
  constructor
  · rintro ⟨a', b', h1, h2, h3, h4⟩
    exact ⟨a', b', h1, h2, by omega, h4⟩
  · rintro ⟨a', b', h1, h2, h3, h4⟩
    exact ⟨a', b', h1, h2, by omega, h4⟩
theorem tch_iff {g : Nat → Nat} (hk : gok g) {f x : Nat} : (tcn g f x (g 0 * g 1) 0 ∧ f ≠ x) ↔ tchF (labF g) f x := by
  constructor
  · rintro ⟨⟨a, b, h1, h2, -, h4, h5, s, hs, h6⟩, hne⟩
    exact ⟨pl (g 0) a, pl_g hk h1, h4, fun e => hne e.symm, s, hs, pl (g 0) b, h6, h5⟩
  · rintro ⟨p, hp, h1, hne, s, hs, q, h2, h3⟩
    have hq := nbr_lt hp h2
    obtain ⟨a, a1, a2⟩ := cel_of hk hp (labF_g h1).1
    obtain ⟨b, b1, b2⟩ := cel_of hk hq (labF_g h3).1
    subst a2 b2
    exact ⟨⟨a, b, a1, b1, Or.inl a1, h1, h3, s, hs, h2⟩, fun e => hne e.symm⟩
theorem has_m1 {g : Nat → Nat} {f : Int32} : (nI 0 ≤ f ∧ f ≤ nI (labN g) - nI 1) ↔ hasF g f := by
  have hn := labN_48 (g := g)
  have e : (nI (labN g) - nI 1).toInt = (labN g : Int) - 1 := by
    rw [fb_subI] <;> rw [nI_toInt (by omega), nI_toInt (by decide)] <;> omega
  unfold hasF
  rw [Int32.le_iff_toInt_le, Int32.le_iff_toInt_le, Int32.le_iff_toInt_le, Int32.lt_iff_toInt_lt, e, nI_toInt (by decide), nI_toInt (show labN g < 2 ^ 31 by omega)]
  show _ ↔ (0 : Int) ≤ _ ∧ _
  omega
theorem l_sizeOf {d f : Nat} {g : Nat → Nat} {M : Mem} (hs : hS g (M 51)) (hk : gok g) (hO : FOg g M) (hf : f < labN g) : ∀ (k c : Nat), g 0 * g 1 - c = k → c ≤ g 0 * g 1 → G l α D cA uX10_sizeOf none (d + 1) (fun r M1 => r = .inl (nI (fsz g f)) ∧ M1 = M) 4 [some (.inr 50), some (.inl (nI f)), some (.inl (nI (fb_ct (fun c => dec (labF g (pl (g 0) c) = some f)) c))), some (.inl (nI c))] [] M := by
  have hN := cel_48 hk
  have hn := labN_48 (g := g)
  intro k
  induction k using Nat.strongRecOn with
  | _ k ih => ?_
  intro c hkk hc
  have hct := fb_ct_le (fun c => dec (labF g (pl (g 0) c) = some f)) c
  refine G_iload_n dX10_sizeOf_4 rfl rfl ?_
  refine G_aload_n dX10_sizeOf_5 rfl rfl ?_
  refine G_callVi (ν := uX10_cells) (As := []) dX10_sizeOf_6 nX10_151 kX10_cells rfl rfl rfl rfl rfl (Nat.le_of_ble_eq_true rfl) (y_cells hs hk) ?_
  rintro _ M8 ⟨rfl, e9⟩
  subst M8
  refine Gn_icmp_ge (tgt := 36) dX10_sizeOf_9 (by decide) (by omega) (by omega) (fun h9 => ?_) (fun h9 => ?_)
  · refine G_iload_n dX10_sizeOf_36 rfl rfl ?_
    refine G_iret dX10_sizeOf_37 rfl rfl ?_
    have e : c = g 0 * g 1 := by omega
    subst e
    exact ⟨by rw [fsz_is hk hf], rfl⟩
  · refine G_iload_n dX10_sizeOf_12 rfl rfl ?_
    refine G_aload_n dX10_sizeOf_13 rfl rfl ?_
    refine G_getR (j := 58) dX10_sizeOf_14 fX10_33 rfl rfl ?_
    refine G_iload_n dX10_sizeOf_17 rfl rfl ?_
    refine G_iald (k := c) (v := (oI (labF g (pl (g 0) c)))) dX10_sizeOf_18 rfl (vp_in_nI (by omega) (by omega)) (nI_clamp (by omega)) (hO.1 c (by omega)) ?_
    refine G_iload_n dX10_sizeOf_19 rfl rfl ?_
    refine G_icmp_ne (tgt := 27) dX10_sizeOf_20 (by decide) (fun h20 => ?_) (fun h20 => ?_)
    · refine G_iconst (v := (nI 0)) dX10_sizeOf_27 (by decide) ?_
      refine G_iadd (v := (nI (fb_ct (fun c => dec (labF g (pl (g 0) c) = some f)) (c + 1)))) dX10_sizeOf_28 (by rw [ct_s0 (P := fun c => dec (labF g (pl (g 0) c) = some f)) (dec_f (fun q => h20 ((FOg_lab hf).mpr q)))]; exact nI_add _ _) ?_
      refine G_istore_n (L2 := [some (.inr 50), some (.inl (nI f)), some (.inl (nI (fb_ct (fun c => dec (labF g (pl (g 0) c) = some f)) (c + 1)))), some (.inl (nI c))]) dX10_sizeOf_29 rfl (Nat.le_of_ble_eq_true rfl) rfl ?_
      refine G_iinc (v := (nI (c + 1))) (L2 := [some (.inr 50), some (.inl (nI f)), some (.inl (nI (fb_ct (fun c => dec (labF g (pl (g 0) c) = some f)) (c + 1)))), some (.inl (nI (c + 1)))]) dX10_sizeOf_30 rfl (nI_1 _) rfl ?_
      refine G_goto (tgt := 4) dX10_sizeOf_33 (by decide) ?_
      exact ih (g 0 * g 1 - (c + 1)) (by omega) (c + 1) rfl (by omega)
    · refine G_iconst (v := (nI 1)) dX10_sizeOf_23 (by decide) ?_
      refine G_goto (tgt := 28) dX10_sizeOf_24 (by decide) ?_
      refine G_iadd (v := (nI (fb_ct (fun c => dec (labF g (pl (g 0) c) = some f)) (c + 1)))) dX10_sizeOf_28 (by rw [ct_s1 (P := fun c => dec (labF g (pl (g 0) c) = some f)) (dec_t ((FOg_lab hf).mp h20))]; exact nI_add _ _) ?_
      refine G_istore_n (L2 := [some (.inr 50), some (.inl (nI f)), some (.inl (nI (fb_ct (fun c => dec (labF g (pl (g 0) c) = some f)) (c + 1)))), some (.inl (nI c))]) dX10_sizeOf_29 rfl (Nat.le_of_ble_eq_true rfl) rfl ?_
      refine G_iinc (v := (nI (c + 1))) (L2 := [some (.inr 50), some (.inl (nI f)), some (.inl (nI (fb_ct (fun c => dec (labF g (pl (g 0) c) = some f)) (c + 1)))), some (.inl (nI (c + 1)))]) dX10_sizeOf_30 rfl (nI_1 _) rfl ?_
      refine G_goto (tgt := 4) dX10_sizeOf_33 (by decide) ?_
      exact ih (g 0 * g 1 - (c + 1)) (by omega) (c + 1) rfl (by omega)
theorem y_sizeOf {d f : Nat} {g : Nat → Nat} {M : Mem} (hs : hS g (M 51)) (hk : gok g) (hO : FOg g M) (hf : f < labN g) : Call l α D cA uX10_sizeOf (d + 1) [.inr 50, .inl (nI f)] M (fun r M1 => r = .inl (nI (fsz g f)) ∧ M1 = M) := by
  refine Call.of kX10_sizeOf.1 (Nat.le_of_ble_eq_true rfl) ?_
  refine G_iconst (v := (nI 0)) dX10_sizeOf_0 (by decide) ?_
  refine G_istore_n (L2 := [some (.inr 50), some (.inl (nI f)), some (.inl (nI 0)), none]) dX10_sizeOf_1 rfl (Nat.le_of_ble_eq_true rfl) rfl ?_
  refine G_iconst (v := (nI 0)) dX10_sizeOf_2 (by decide) ?_
  refine G_istore_n (L2 := [some (.inr 50), some (.inl (nI f)), some (.inl (nI 0)), some (.inl (nI 0))]) dX10_sizeOf_3 rfl (Nat.le_of_ble_eq_true rfl) rfl ?_
  exact l_sizeOf hs hk hO hf _ 0 rfl (Nat.zero_le _)
theorem l_coloured {d : Nat} {g : Nat → Nat} {M : Mem} (hs : hS g (M 51)) (hk : gok g) : ∀ (k c : Nat), g 0 * g 1 - c = k → c ≤ g 0 * g 1 → G l α D cA uX10_coloured none (d + 1) (fun r M1 => r = .inl (nI (fb_ct (fun q => (labF g q).isSome) 48)) ∧ M1 = M) 4 [some (.inr 50), some (.inl (nI (fb_ct (fun c => dec (g (12 + pl (g 0) c) ≠ 0)) c))), some (.inl (nI c))] [] M := by
  have hN := cel_48 hk
  intro k
  induction k using Nat.strongRecOn with
  | _ k ih => ?_
  intro c hkk hc
  have hct := fb_ct_le (fun c => dec (g (12 + pl (g 0) c) ≠ 0)) c
  refine G_iload_n dX10_coloured_4 rfl rfl ?_
  refine G_aload_n dX10_coloured_5 rfl rfl ?_
  refine G_callVi (ν := uX10_cells) (As := []) dX10_coloured_6 nX10_151 kX10_cells rfl rfl rfl rfl rfl (Nat.le_of_ble_eq_true rfl) (y_cells hs hk) ?_
  rintro _ M8 ⟨rfl, e9⟩
  subst M8
  refine Gn_icmp_ge (tgt := 38) dX10_coloured_9 (by decide) (by omega) (by omega) (fun h9 => ?_) (fun h9 => ?_)
  · refine G_iload_n dX10_coloured_38 rfl rfl ?_
    refine G_iret dX10_coloured_39 rfl rfl ?_
    have e : c = g 0 * g 1 := by omega
    subst e
    exact ⟨by rw [colo_is hk], rfl⟩
  · have hb9 := (hk.2.2.2.2.2 _ (pl_g hk (show c < g 0 * g 1 by omega))).1
    refine G_iload_n dX10_coloured_12 rfl rfl ?_
    refine G_aload_n dX10_coloured_13 rfl rfl ?_
    refine G_getR (j := 51) dX10_coloured_14 fX10_7 rfl rfl ?_
    refine G_bipush (v := (nI 12)) dX10_coloured_17 (by decide) ?_
    refine G_iload_n dX10_coloured_19 rfl rfl ?_
    refine G_iadd (v := (nI (12 + c))) dX10_coloured_20 (nI_add _ _) ?_
    refine G_iald (k := 12 + c) (v := (nI (g (12 + pl (g 0) c)))) dX10_coloured_21 rfl (vp_in_nI (by omega) (by omega)) (nI_clamp (by omega)) (hs.2 c (by omega)) ?_
    refine Gn_if_le (tgt := 29) dX10_coloured_22 (by decide) (by omega) (fun h22 => ?_) (fun h22 => ?_)
    · refine G_iconst (v := (nI 0)) dX10_coloured_29 (by decide) ?_
      refine G_iadd (v := (nI (fb_ct (fun c => dec (g (12 + pl (g 0) c) ≠ 0)) (c + 1)))) dX10_coloured_30 (by rw [ct_s0 (P := fun c => dec (g (12 + pl (g 0) c) ≠ 0)) (dec_f (by omega))]; exact nI_add _ _) ?_
      refine G_istore_n (L2 := [some (.inr 50), some (.inl (nI (fb_ct (fun c => dec (g (12 + pl (g 0) c) ≠ 0)) (c + 1)))), some (.inl (nI c))]) dX10_coloured_31 rfl (Nat.le_of_ble_eq_true rfl) rfl ?_
      refine G_iinc (v := (nI (c + 1))) (L2 := [some (.inr 50), some (.inl (nI (fb_ct (fun c => dec (g (12 + pl (g 0) c) ≠ 0)) (c + 1)))), some (.inl (nI (c + 1)))]) dX10_coloured_32 rfl (nI_1 _) rfl ?_
      refine G_goto (tgt := 4) dX10_coloured_35 (by decide) ?_
      exact ih (g 0 * g 1 - (c + 1)) (by omega) (c + 1) rfl (by omega)
    · refine G_iconst (v := (nI 1)) dX10_coloured_25 (by decide) ?_
      refine G_goto (tgt := 30) dX10_coloured_26 (by decide) ?_
      refine G_iadd (v := (nI (fb_ct (fun c => dec (g (12 + pl (g 0) c) ≠ 0)) (c + 1)))) dX10_coloured_30 (by rw [ct_s1 (P := fun c => dec (g (12 + pl (g 0) c) ≠ 0)) (dec_t (by omega))]; exact nI_add _ _) ?_
      refine G_istore_n (L2 := [some (.inr 50), some (.inl (nI (fb_ct (fun c => dec (g (12 + pl (g 0) c) ≠ 0)) (c + 1)))), some (.inl (nI c))]) dX10_coloured_31 rfl (Nat.le_of_ble_eq_true rfl) rfl ?_
      refine G_iinc (v := (nI (c + 1))) (L2 := [some (.inr 50), some (.inl (nI (fb_ct (fun c => dec (g (12 + pl (g 0) c) ≠ 0)) (c + 1)))), some (.inl (nI (c + 1)))]) dX10_coloured_32 rfl (nI_1 _) rfl ?_
      refine G_goto (tgt := 4) dX10_coloured_35 (by decide) ?_
      exact ih (g 0 * g 1 - (c + 1)) (by omega) (c + 1) rfl (by omega)
theorem y_coloured {d : Nat} {g : Nat → Nat} {M : Mem} (hs : hS g (M 51)) (hk : gok g) : Call l α D cA uX10_coloured (d + 1) [.inr 50] M (fun r M1 => r = .inl (nI (fb_ct (fun q => (labF g q).isSome) 48)) ∧ M1 = M) := by
  refine Call.of kX10_coloured.1 (Nat.le_of_ble_eq_true rfl) ?_
  refine G_iconst (v := (nI 0)) dX10_coloured_0 (by decide) ?_
  refine G_istore_n (L2 := [some (.inr 50), some (.inl (nI 0)), none]) dX10_coloured_1 rfl (Nat.le_of_ble_eq_true rfl) rfl ?_
  refine G_iconst (v := (nI 0)) dX10_coloured_2 (by decide) ?_
  refine G_istore_n (L2 := [some (.inr 50), some (.inl (nI 0)), some (.inl (nI 0))]) dX10_coloured_3 rfl (Nat.le_of_ble_eq_true rfl) rfl ?_
  exact l_coloured hs hk _ 0 rfl (Nat.zero_le _)
theorem l_touB {d f x : Nat} {g : Nat → Nat} {M : Mem} (hs : hS g (M 51)) (hk : gok g) (hO : FOg g M) (hf : f < labN g) (hx : x < labN g) {a : Nat} {Q : AV → Mem → Prop} (ha : a < g 0 * g 1) (out : ∀ x5 : Option AV, G l α D cA uX10_touch none (d + 1) Q 75 [some (.inr 50), some (.inl (nI f)), some (.inl (nI x)), some (.inl (bI (dec (tcn g f x a (g 0 * g 1))))), some (.inl (nI a)), x5] [] M) : ∀ k b : Nat, g 0 * g 1 - b = k → b ≤ g 0 * g 1 → G l α D cA uX10_touch none (d + 1) Q 17 [some (.inr 50), some (.inl (nI f)), some (.inl (nI x)), some (.inl (bI (dec (tcn g f x a b)))), some (.inl (nI a)), some (.inl (nI b))] [] M := by
  have hN := cel_48 hk
  have hn := labN_48 (g := g)
  intro k
  induction k using Nat.strongRecOn with
  | _ k ih => ?_
  intro b hkk hb
  refine G_iload dX10_touch_17 rfl ?_
  refine G_aload_n dX10_touch_19 rfl rfl ?_
  refine G_callVi (ν := uX10_cells) (As := []) dX10_touch_20 nX10_151 kX10_cells rfl rfl rfl rfl rfl (Nat.le_of_ble_eq_true rfl) (y_cells hs hk) ?_
  rintro _ M8 ⟨rfl, e9⟩
  subst M8
  refine Gn_icmp_ge (tgt := 75) dX10_touch_23 (by decide) (by omega) (by omega) (fun h23 => ?_) (fun h23 => ?_)
  · have e : b = g 0 * g 1 := by omega
    subst e
    exact out _
  · refine G_iload_n dX10_touch_26 rfl rfl ?_
    refine Gb_if_ne (tgt := 63) dX10_touch_27 (by decide) (fun h27 => ?_) (fun h27 => ?_)
    · refine G_iconst (v := (nI 1)) dX10_touch_63 (by decide) ?_
      refine G_goto (tgt := 68) dX10_touch_64 (by decide) ?_
      refine G_istore_n (L2 := [some (.inr 50), some (.inl (nI f)), some (.inl (nI x)), some (.inl (nI 1)), some (.inl (nI a)), some (.inl (nI b))]) dX10_touch_68 rfl (Nat.le_of_ble_eq_true rfl) rfl ?_
      refine G_iinc (v := (nI (b + 1))) (L2 := [some (.inr 50), some (.inl (nI f)), some (.inl (nI x)), some (.inl (nI 1)), some (.inl (nI a)), some (.inl (nI (b + 1)))]) dX10_touch_69 rfl (nI_1 _) rfl ?_
      refine G_goto (tgt := 17) dX10_touch_72 (by decide) ?_
      rw [show nI 1 = bI (dec (tcn g f x a (b + 1))) from bI_dt ((tcn_s ha (by omega)).mpr (Or.inl (dec_iff.mp h27)))]
      exact ih (g 0 * g 1 - (b + 1)) (by omega) (b + 1) rfl (by omega)
    · refine G_aload_n dX10_touch_30 rfl rfl ?_
      refine G_getR (j := 58) dX10_touch_31 fX10_33 rfl rfl ?_
      refine G_iload dX10_touch_34 rfl ?_
      refine G_iald (k := a) (v := (oI (labF g (pl (g 0) a)))) dX10_touch_36 rfl (vp_in_nI (by omega) (by omega)) (nI_clamp (by omega)) (hO.1 a ha) ?_
      refine G_iload_n dX10_touch_37 rfl rfl ?_
      refine G_icmp_ne (tgt := 67) dX10_touch_38 (by decide) (fun h38 => ?_) (fun h38 => ?_)
      · refine G_iconst (v := (nI 0)) dX10_touch_67 (by decide) ?_
        refine G_istore_n (L2 := [some (.inr 50), some (.inl (nI f)), some (.inl (nI x)), some (.inl (nI 0)), some (.inl (nI a)), some (.inl (nI b))]) dX10_touch_68 rfl (Nat.le_of_ble_eq_true rfl) rfl ?_
        refine G_iinc (v := (nI (b + 1))) (L2 := [some (.inr 50), some (.inl (nI f)), some (.inl (nI x)), some (.inl (nI 0)), some (.inl (nI a)), some (.inl (nI (b + 1)))]) dX10_touch_69 rfl (nI_1 _) rfl ?_
        refine G_goto (tgt := 17) dX10_touch_72 (by decide) ?_
        rw [show nI 0 = bI (dec (tcn g f x a (b + 1))) from bI_df (fun q => ((tcn_s ha (by omega)).mp q).elim (fun z => dec_niff.mp h27 z) (fun z => h38 ((FOg_lab hf).mpr z.1)))]
        exact ih (g 0 * g 1 - (b + 1)) (by omega) (b + 1) rfl (by omega)
      · refine G_aload_n dX10_touch_41 rfl rfl ?_
        refine G_getR (j := 58) dX10_touch_42 fX10_33 rfl rfl ?_
        refine G_iload dX10_touch_45 rfl ?_
        refine G_iald (k := b) (v := (oI (labF g (pl (g 0) b)))) dX10_touch_47 rfl (vp_in_nI (by omega) (by omega)) (nI_clamp (by omega)) (hO.1 b (by omega)) ?_
        refine G_iload_n dX10_touch_48 rfl rfl ?_
        refine G_icmp_ne (tgt := 67) dX10_touch_49 (by decide) (fun h49 => ?_) (fun h49 => ?_)
        · refine G_iconst (v := (nI 0)) dX10_touch_67 (by decide) ?_
          refine G_istore_n (L2 := [some (.inr 50), some (.inl (nI f)), some (.inl (nI x)), some (.inl (nI 0)), some (.inl (nI a)), some (.inl (nI b))]) dX10_touch_68 rfl (Nat.le_of_ble_eq_true rfl) rfl ?_
          refine G_iinc (v := (nI (b + 1))) (L2 := [some (.inr 50), some (.inl (nI f)), some (.inl (nI x)), some (.inl (nI 0)), some (.inl (nI a)), some (.inl (nI (b + 1)))]) dX10_touch_69 rfl (nI_1 _) rfl ?_
          refine G_goto (tgt := 17) dX10_touch_72 (by decide) ?_
          rw [show nI 0 = bI (dec (tcn g f x a (b + 1))) from bI_df (fun q => ((tcn_s ha (by omega)).mp q).elim (fun z => dec_niff.mp h27 z) (fun z => h49 ((FOg_lab hx).mpr z.2.1)))]
          exact ih (g 0 * g 1 - (b + 1)) (by omega) (b + 1) rfl (by omega)
        · refine G_aload_n dX10_touch_52 rfl rfl ?_
          refine G_iload dX10_touch_53 rfl ?_
          refine G_iload dX10_touch_55 rfl ?_
          refine G_callVi (ν := uX10_areBeside) (As := [.inl (nI a), .inl (nI b)]) dX10_touch_57 nX10_157 kX10_areBeside rfl rfl rfl rfl rfl (Nat.le_of_ble_eq_true rfl) (y_beside hs hk ha (by omega)) ?_
          rintro _ M8 ⟨rfl, e9⟩
          subst M8
          refine Gb_if_eq (tgt := 67) dX10_touch_60 (by decide) (fun h60 => ?_) (fun h60 => ?_)
          · refine G_iconst (v := (nI 0)) dX10_touch_67 (by decide) ?_
            refine G_istore_n (L2 := [some (.inr 50), some (.inl (nI f)), some (.inl (nI x)), some (.inl (nI 0)), some (.inl (nI a)), some (.inl (nI b))]) dX10_touch_68 rfl (Nat.le_of_ble_eq_true rfl) rfl ?_
            refine G_iinc (v := (nI (b + 1))) (L2 := [some (.inr 50), some (.inl (nI f)), some (.inl (nI x)), some (.inl (nI 0)), some (.inl (nI a)), some (.inl (nI (b + 1)))]) dX10_touch_69 rfl (nI_1 _) rfl ?_
            refine G_goto (tgt := 17) dX10_touch_72 (by decide) ?_
            rw [show nI 0 = bI (dec (tcn g f x a (b + 1))) from bI_df (fun q => ((tcn_s ha (by omega)).mp q).elim (fun z => dec_niff.mp h27 z) (fun z => dec_niff.mp h60 z.2.2))]
            exact ih (g 0 * g 1 - (b + 1)) (by omega) (b + 1) rfl (by omega)
          · refine G_iconst (v := (nI 1)) dX10_touch_63 (by decide) ?_
            refine G_goto (tgt := 68) dX10_touch_64 (by decide) ?_
            refine G_istore_n (L2 := [some (.inr 50), some (.inl (nI f)), some (.inl (nI x)), some (.inl (nI 1)), some (.inl (nI a)), some (.inl (nI b))]) dX10_touch_68 rfl (Nat.le_of_ble_eq_true rfl) rfl ?_
            refine G_iinc (v := (nI (b + 1))) (L2 := [some (.inr 50), some (.inl (nI f)), some (.inl (nI x)), some (.inl (nI 1)), some (.inl (nI a)), some (.inl (nI (b + 1)))]) dX10_touch_69 rfl (nI_1 _) rfl ?_
            refine G_goto (tgt := 17) dX10_touch_72 (by decide) ?_
            rw [show nI 1 = bI (dec (tcn g f x a (b + 1))) from bI_dt ((tcn_s ha (by omega)).mpr (Or.inr ⟨(FOg_lab hf).mp h38, (FOg_lab hx).mp h49, dec_iff.mp h60⟩))]
            exact ih (g 0 * g 1 - (b + 1)) (by omega) (b + 1) rfl (by omega)
theorem l_touA {d f x : Nat} {g : Nat → Nat} {M : Mem} (hs : hS g (M 51)) (hk : gok g) (hO : FOg g M) (hf : f < labN g) (hx : x < labN g) : ∀ (k a : Nat) (x5 : Option AV), g 0 * g 1 - a = k → a ≤ g 0 * g 1 → G l α D cA uX10_touch none (d + 1) (fun r M1 => r = .inl (bI (dec (tchF (labF g) f x))) ∧ M1 = M) 5 [some (.inr 50), some (.inl (nI f)), some (.inl (nI x)), some (.inl (bI (dec (tcn g f x a 0)))), some (.inl (nI a)), x5] [] M := by
  have hN := cel_48 hk
  have hn := labN_48 (g := g)
  intro k
  induction k using Nat.strongRecOn with
  | _ k ih => ?_
  intro a x5 hkk ha
  refine G_iload dX10_touch_5 rfl ?_
  refine G_aload_n dX10_touch_7 rfl rfl ?_
  refine G_callVi (ν := uX10_cells) (As := []) dX10_touch_8 nX10_151 kX10_cells rfl rfl rfl rfl rfl (Nat.le_of_ble_eq_true rfl) (y_cells hs hk) ?_
  rintro _ M8 ⟨rfl, e9⟩
  subst M8
  refine Gn_icmp_ge (tgt := 81) dX10_touch_11 (by decide) (by omega) (by omega) (fun h11 => ?_) (fun h11 => ?_)
  · have e : a = g 0 * g 1 := by omega
    subst e
    refine G_iload_n dX10_touch_81 rfl rfl ?_
    refine Gb_if_eq (tgt := 94) dX10_touch_82 (by decide) (fun h82 => ?_) (fun h82 => ?_)
    · refine G_iconst (v := (nI 0)) dX10_touch_94 (by decide) ?_
      refine G_iret dX10_touch_95 rfl (by decide) ?_
      exact ⟨by rw [bI_df (P := tchF (labF g) f x) (fun q => dec_niff.mp h82 ((tch_iff hk).mpr q).1)], rfl⟩
    · refine G_iload_n dX10_touch_85 rfl rfl ?_
      refine G_iload_n dX10_touch_86 rfl rfl ?_
      refine Gn_icmp_eq (tgt := 94) dX10_touch_87 (by decide) (by omega) (by omega) (fun h87 => ?_) (fun h87 => ?_)
      · refine G_iconst (v := (nI 0)) dX10_touch_94 (by decide) ?_
        refine G_iret dX10_touch_95 rfl (by decide) ?_
        exact ⟨by rw [bI_df (P := tchF (labF g) f x) (fun q => ((tch_iff hk).mpr q).2 h87)], rfl⟩
      · refine G_iconst (v := (nI 1)) dX10_touch_90 (by decide) ?_
        refine G_goto (tgt := 95) dX10_touch_91 (by decide) ?_
        refine G_iret dX10_touch_95 rfl (by decide) ?_
        exact ⟨by rw [bI_dt (P := tchF (labF g) f x) ((tch_iff hk).mp ⟨dec_iff.mp h82, h87⟩)], rfl⟩
  · refine G_iconst (v := (nI 0)) dX10_touch_14 (by decide) ?_
    refine G_istore (L2 := [some (.inr 50), some (.inl (nI f)), some (.inl (nI x)), some (.inl (bI (dec (tcn g f x a 0)))), some (.inl (nI a)), some (.inl (nI 0))]) dX10_touch_15 (Nat.le_of_ble_eq_true rfl) rfl ?_
    refine l_touB hs hk hO hf hx (show a < g 0 * g 1 by omega) (fun x5 => ?_) _ 0 rfl (Nat.zero_le _)
    refine G_iinc (v := (nI (a + 1))) (L2 := [some (.inr 50), some (.inl (nI f)), some (.inl (nI x)), some (.inl (bI (dec (tcn g f x a (g 0 * g 1))))), some (.inl (nI (a + 1))), x5]) dX10_touch_75 rfl (nI_1 _) rfl ?_
    refine G_goto (tgt := 5) dX10_touch_78 (by decide) ?_
    rw [show dec (tcn g f x a (g 0 * g 1)) = dec (tcn g f x (a + 1) 0) from dec_eq tcn_n]
    exact ih (g 0 * g 1 - (a + 1)) (by omega) (a + 1) _ rfl (by omega)
theorem y_touch {d f x : Nat} {g : Nat → Nat} {M : Mem} (hs : hS g (M 51)) (hk : gok g) (hO : FOg g M) (hf : f < labN g) (hx : x < labN g) : Call l α D cA uX10_touch (d + 1) [.inr 50, .inl (nI f), .inl (nI x)] M (fun r M1 => r = .inl (bI (dec (tchF (labF g) f x))) ∧ M1 = M) := by
  refine Call.of kX10_touch.1 (Nat.le_of_ble_eq_true rfl) ?_
  refine G_iconst (v := (bI (dec (tcn g f x 0 0)))) dX10_touch_0 (bI_df (fun ⟨a, b, _, _, h, _⟩ => by omega)) ?_
  refine G_istore_n (L2 := [some (.inr 50), some (.inl (nI f)), some (.inl (nI x)), some (.inl (bI (dec (tcn g f x 0 0)))), none, none]) dX10_touch_1 rfl (Nat.le_of_ble_eq_true rfl) rfl ?_
  refine G_iconst (v := (nI 0)) dX10_touch_2 (by decide) ?_
  refine G_istore (L2 := [some (.inr 50), some (.inl (nI f)), some (.inl (nI x)), some (.inl (bI (dec (tcn g f x 0 0)))), some (.inl (nI 0)), none]) dX10_touch_3 (Nat.le_of_ble_eq_true rfl) rfl ?_
  exact l_touA hs hk hO hf hx _ 0 _ rfl (Nat.zero_le _)
theorem ly_touching {d f : Nat} {g : Nat → Nat} {M : Mem} (hs : hS g (M 51)) (hk : gok g) (hO : FOg g M) (hf : f < labN g) : ∀ (k x : Nat), labN g - x = k → x ≤ labN g → G l α D cA uX10_touching none (d + 2) (fun r M1 => r = .inl (nI (fb_ct (fun x => dec (tchF (labF g) f x)) 48)) ∧ M1 = M) 4 [some (.inr 50), some (.inl (nI f)), some (.inl (nI (fb_ct (fun x => dec (tchF (labF g) f x)) x))), some (.inl (nI x))] [] M := by
  have hN := cel_48 hk
  have hn := labN_48 (g := g)
  intro k
  induction k using Nat.strongRecOn with
  | _ k ih => ?_
  intro x hkk hx
  have hct := fb_ct_le (fun x => dec (tchF (labF g) f x)) x
  refine G_iload_n dX10_touching_4 rfl rfl ?_
  refine G_aload_n dX10_touching_5 rfl rfl ?_
  refine G_getI (v := (nI (labN g))) dX10_touching_6 fX10_160 rfl rfl hO.2 ?_
  refine Gn_icmp_ge (tgt := 35) dX10_touching_9 (by decide) (by omega) (by omega) (fun h9 => ?_) (fun h9 => ?_)
  · refine G_iload_n dX10_touching_35 rfl rfl ?_
    refine G_iret dX10_touching_36 rfl rfl ?_
    have e : x = labN g := by omega
    subst e
    refine ⟨by rw [ct_gap (a := labN g) (b := 48) hn (fun p a b => dec_f (fun ⟨y, _, _, _, _, _, z, _, h⟩ => ?_))], rfl⟩
    have := (labF_g h).2
    omega
  · refine G_iload_n dX10_touching_12 rfl rfl ?_
    refine G_aload_n dX10_touching_13 rfl rfl ?_
    refine G_iload_n dX10_touching_14 rfl rfl ?_
    refine G_iload_n dX10_touching_15 rfl rfl ?_
    refine G_callVi (ν := uX10_touch) (As := [.inl (nI f), .inl (nI x)]) dX10_touching_16 nX10_225 kX10_touch rfl rfl rfl rfl rfl (Nat.le_of_ble_eq_true rfl) (y_touch hs hk hO hf (by omega)) ?_
    rintro _ M8 ⟨rfl, e9⟩
    subst M8
    refine Gb_if_eq (tgt := 26) dX10_touching_19 (by decide) (fun h19 => ?_) (fun h19 => ?_)
    · refine G_iconst (v := (nI 0)) dX10_touching_26 (by decide) ?_
      refine G_iadd (v := (nI (fb_ct (fun x => dec (tchF (labF g) f x)) (x + 1)))) dX10_touching_27 (by rw [ct_s0 (P := fun x => dec (tchF (labF g) f x)) h19]; exact nI_add _ _) ?_
      refine G_istore_n (L2 := [some (.inr 50), some (.inl (nI f)), some (.inl (nI (fb_ct (fun x => dec (tchF (labF g) f x)) (x + 1)))), some (.inl (nI x))]) dX10_touching_28 rfl (Nat.le_of_ble_eq_true rfl) rfl ?_
      refine G_iinc (v := (nI (x + 1))) (L2 := [some (.inr 50), some (.inl (nI f)), some (.inl (nI (fb_ct (fun x => dec (tchF (labF g) f x)) (x + 1)))), some (.inl (nI (x + 1)))]) dX10_touching_29 rfl (nI_1 _) rfl ?_
      refine G_goto (tgt := 4) dX10_touching_32 (by decide) ?_
      exact ih (labN g - (x + 1)) (by omega) (x + 1) rfl (by omega)
    · refine G_iconst (v := (nI 1)) dX10_touching_22 (by decide) ?_
      refine G_goto (tgt := 27) dX10_touching_23 (by decide) ?_
      refine G_iadd (v := (nI (fb_ct (fun x => dec (tchF (labF g) f x)) (x + 1)))) dX10_touching_27 (by rw [ct_s1 (P := fun x => dec (tchF (labF g) f x)) h19]; exact nI_add _ _) ?_
      refine G_istore_n (L2 := [some (.inr 50), some (.inl (nI f)), some (.inl (nI (fb_ct (fun x => dec (tchF (labF g) f x)) (x + 1)))), some (.inl (nI x))]) dX10_touching_28 rfl (Nat.le_of_ble_eq_true rfl) rfl ?_
      refine G_iinc (v := (nI (x + 1))) (L2 := [some (.inr 50), some (.inl (nI f)), some (.inl (nI (fb_ct (fun x => dec (tchF (labF g) f x)) (x + 1)))), some (.inl (nI (x + 1)))]) dX10_touching_29 rfl (nI_1 _) rfl ?_
      refine G_goto (tgt := 4) dX10_touching_32 (by decide) ?_
      exact ih (labN g - (x + 1)) (by omega) (x + 1) rfl (by omega)
theorem y_touching {d f : Nat} {g : Nat → Nat} {M : Mem} (hs : hS g (M 51)) (hk : gok g) (hO : FOg g M) (hf : f < labN g) : Call l α D cA uX10_touching (d + 2) [.inr 50, .inl (nI f)] M (fun r M1 => r = .inl (nI (fb_ct (fun x => dec (tchF (labF g) f x)) 48)) ∧ M1 = M) := by
  refine Call.of kX10_touching.1 (Nat.le_of_ble_eq_true rfl) ?_
  refine G_iconst (v := (nI 0)) dX10_touching_0 (by decide) ?_
  refine G_istore_n (L2 := [some (.inr 50), some (.inl (nI f)), some (.inl (nI 0)), none]) dX10_touching_1 rfl (Nat.le_of_ble_eq_true rfl) rfl ?_
  refine G_iconst (v := (nI 0)) dX10_touching_2 (by decide) ?_
  refine G_istore_n (L2 := [some (.inr 50), some (.inl (nI f)), some (.inl (nI 0)), some (.inl (nI 0))]) dX10_touching_3 rfl (Nat.le_of_ble_eq_true rfl) rfl ?_
  exact ly_touching hs hk hO hf _ 0 rfl (Nat.zero_le _)
theorem y_isField {d : Nat} {g : Nat → Nat} {f : Int32} {M : Mem} (hs : hS g (M 51)) (hk : gok g) : Call l α D cA uX10_isField (d + 3) [.inr 50, .inl f] M (fun r M1 => r = .inl (bI (dec (hasF g f))) ∧ FRL M M1 ∧ FOg g M1) := by
  refine Call.of kX10_isField.1 (Nat.le_of_ble_eq_true rfl) ?_
  refine G_aload_n dX10_isField_0 rfl rfl ?_
  refine G_callVv (ν := uX10_laysFields) (As := []) dX10_isField_1 nX10_228 kX10_laysFields rfl rfl rfl rfl rfl (Nat.le_of_ble_eq_true rfl) (y_laysFields hs hk) ?_
  rintro _ M2 ⟨hR2, hO2⟩
  refine G_iload_n dX10_isField_4 rfl rfl ?_
  refine G_iconst (v := (nI 0)) dX10_isField_5 (by decide) ?_
  refine G_aload_n dX10_isField_6 rfl rfl ?_
  refine G_getI (v := (nI (labN g))) dX10_isField_7 fX10_160 rfl rfl hO2.2 ?_
  refine G_iconst (v := (nI 1)) dX10_isField_10 (by decide) ?_
  refine G_isub (v := (nI (labN g) - nI 1)) dX10_isField_11 rfl ?_
  refine G_callSi (ν := uX10_in) (As := [.inl f, .inl (nI 0), .inl (nI (labN g) - nI 1)]) dX10_isField_12 nX10_85 kX10_in rfl rfl rfl (Nat.le_of_ble_eq_true rfl) (y_in) ?_
  rintro _ M8 ⟨rfl, e9⟩
  subst M8
  refine G_iret dX10_isField_15 rfl bI_nar ?_
  exact ⟨by rw [dd, dec_eq has_m1], hR2, hO2⟩
theorem y_fieldsNow {d : Nat} {g : Nat → Nat} {M : Mem} (hs : hS g (M 51)) (hk : gok g) : Call l α D cA uX10_fieldsNow (d + 3) [.inr 50] M (fun r M1 => r = .inl (nI (labN g)) ∧ FRL M M1 ∧ FOg g M1) := by
  refine Call.of kX10_fieldsNow.1 (Nat.le_of_ble_eq_true rfl) ?_
  refine G_aload_n dX10_fieldsNow_0 rfl rfl ?_
  refine G_callVv (ν := uX10_laysFields) (As := []) dX10_fieldsNow_1 nX10_228 kX10_laysFields rfl rfl rfl rfl rfl (Nat.le_of_ble_eq_true rfl) (y_laysFields hs hk) ?_
  rintro _ M2 ⟨hR2, hO2⟩
  refine G_aload_n dX10_fieldsNow_4 rfl rfl ?_
  refine G_getI (v := (nI (labN g))) dX10_fieldsNow_5 fX10_160 rfl rfl hO2.2 ?_
  refine G_iret dX10_fieldsNow_8 rfl rfl ?_
  exact ⟨rfl, hR2, hO2⟩
end P30
