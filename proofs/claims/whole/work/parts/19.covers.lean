/-! Sewing: the cells that are covered -/
section P19
variable {l : Launch} {α : Nat → Nat} {D : va_G} {cA : Nat → ClassId}
theorem max_sub {a b : Nat} (ha : a < 2 ^ 30) (hb : b < 2 ^ 30) : (if nI a - nI b < nI 0 then nI 0 else nI a - nI b) = nI (a - b) := by
  rcases Nat.lt_or_ge a b with h | h
  · rw [if_pos (by rw [nI_0]; exact pk_sneg hb h), Nat.sub_eq_zero_of_le (by omega)]
  · rw [pk_sub h, if_neg (by rw [nI_0]; exact nI_pos (by omega))]
theorem min_nI {a b : Nat} (ha : a < 2 ^ 31) (hb : b < 2 ^ 31) : (if nI b < nI a then nI b else nI a) = nI (min a b) := by
  rcases Nat.lt_or_ge b a with h | h
  · rw [if_pos (nI_lt h ha), Nat.min_eq_right (by omega)]
  · rw [if_neg (nI_nlt h hb), Nat.min_eq_left h]
/-- row r covers place q -/
def covR (w W H pull : Nat) (s : RS) (r q : Nat) : Prop := ∃ x, s.2.2.1 r ≤ x + pull ∧ x ≤ s.2.2.2 r + pull ∧ x < llO w W H ∧ q = plc w (s.2.1 r) x
def covP (w W H pull : Nat) (s : RS) (k q : Nat) : Prop := ∃ r, r < k ∧ covR w W H pull s r q
def covI (w W H pull : Nat) (s : RS) (r x q : Nat) : Prop := ∃ y, y < x ∧ s.2.2.1 r ≤ y + pull ∧ y ≤ s.2.2.2 r + pull ∧ y < llO w W H ∧ q = plc w (s.2.1 r) y
theorem covI_s {w W H pull : Nat} {s : RS} {r x q : Nat} (h : s.2.2.1 r ≤ x + pull ∧ x ≤ s.2.2.2 r + pull ∧ x < llO w W H) : covI w W H pull s r (x + 1) q ↔ covI w W H pull s r x q ∨ q = plc w (s.2.1 r) x := by
  constructor
  · rintro ⟨y, h1, h2⟩
    rcases (show y < x ∨ y = x by omega) with z | z
    · exact Or.inl ⟨y, z, h2⟩
    · subst z
      exact Or.inr h2.2.2.2
  · rintro (⟨y, h1, h2⟩ | rfl)
    · exact ⟨y, by omega, h2⟩
    · exact ⟨x, by omega, h.1, h.2.1, h.2.2, rfl⟩
theorem covP_s {w W H pull : Nat} {s : RS} {k q : Nat} : covP w W H pull s (k + 1) q ↔ covP w W H pull s k q ∨ covR w W H pull s k q := by
  constructor
  · rintro ⟨y, h1, h2⟩
    rcases (show y < k ∨ y = k by omega) with z | z
    · exact Or.inl ⟨y, z, h2⟩
    · subst z
      exact Or.inr h2
  · rintro (⟨y, h1, h2⟩ | h)
    · exact ⟨y, by omega, h2⟩
    · exact ⟨k, by omega, h⟩
theorem l_coverI {d r w f W H m pull : Nat} {F : Nat → Option Nat} {M : Mem} (hS : SWx F w f W H m M) (hW : W ≤ 8) (hH : H ≤ 6) (w2 : w < 2) (hgW : M 2 0 = nI W) (hgH : M 2 1 = nI H) (hgp : M 2 3 = nI pull) (hp2 : pull ≤ 2) {Q : AV → Mem → Prop} (hr : r < (rwS F w f W H).1) (hi : (rwS F w f W H).2.1 r < lcO w W H) (he : (rwS F w f W H).2.2.2 r < llO w W H) (out : ∀ (b : Nat → Int32) (x3 x4 x5 x6 : Option AV), (∀ q, q < 48 → b q = bI (dec (covP w W H pull (rwS F w f W H) (r + 1) q))) → G l α D cA uX5_cover none (d + 3) Q 111 [some (.inr 17), some (.inr 1), some (.inl (nI r)), x3, x4, x5, x6] [] (mo M 30 b)) :
  ∀ (k x : Nat) (b : Nat → Int32) (x6 : Option AV), (min ((rwS F w f W H).2.2.2 r + pull) (llO w W H - 1)) + 1 - x = k → ((rwS F w f W H).2.2.1 r - pull) ≤ x → x ≤ (min ((rwS F w f W H).2.2.2 r + pull) (llO w W H - 1)) + 1 → (∀ q, q < 48 → b q = bI (dec (covP w W H pull (rwS F w f W H) r q ∨ covI w W H pull (rwS F w f W H) r x q))) → G l α D cA uX5_cover none (d + 3) Q 63 [some (.inr 17), some (.inr 1), some (.inl (nI r)), some (.inl (nI (((rwS F w f W H).2.2.1 r - pull)))), some (.inl (nI ((min ((rwS F w f W H).2.2.2 r + pull) (llO w W H - 1))))), some (.inl (nI x)), x6] [] (mo M 30 b) := by
  intro k
  induction k using Nat.strongRecOn with
  | _ k ih => ?_
  intro x b x6 hk hfx hxt hb
  have k0 := (rwS_RB (F := F) (w := w) (f := f) hW hH).1
  have k2 := (rwS_RB (F := F) (w := w) (f := f) hW hH).2 r hr
  have hll := (ll_in hW hH hi he).2.2.1
  refine G_iload dX5_cover_63 rfl ?_
  refine G_iload dX5_cover_65 rfl ?_
  refine Gn_icmp_gt (tgt := 111) dX5_cover_67 (by decide) (by omega) (by omega) (fun h67 => ?_) (fun h67 => ?_)
  · refine out b _ _ _ _ (fun q hq => by
      rw [hb q hq]
      exact congrArg bI (dec_eq ⟨fun z => covP_s.mpr (z.elim Or.inl (fun ⟨y, y1, y2, y3, y4, y5⟩ => Or.inr ⟨y, y2, y3, y4, y5⟩)), fun z => (covP_s.mp z).elim Or.inl (fun ⟨y, y2, y3, y4, y5⟩ => Or.inr ⟨y, by omega, y2, y3, y4, y5⟩)⟩))
  · have hxl : x < llO w W H := by omega
    have hx3 : (rwS F w f W H).2.2.1 r ≤ x + pull ∧ x ≤ (rwS F w f W H).2.2.2 r + pull ∧ x < llO w W H := ⟨by omega, by omega, hxl⟩
    have hin := (ll_in hW hH hi hxl).1
    refine G_aload_n dX5_cover_70 rfl rfl ?_
    refine G_aload_n dX5_cover_71 rfl rfl ?_
    refine G_getR (j := 21) dX5_cover_72 fX5_18 rfl rfl ?_
    refine G_iload_n dX5_cover_75 rfl rfl ?_
    refine G_callSi (ν := uX9_at) (As := [.inr 21, .inl (nI r)]) dX5_cover_76 nX5_72 kX9_at rfl rfl rfl (Nat.le_of_ble_eq_true rfl) (c_at (o := 21) (n := 48) rfl (by decide) (by omega)) ?_
    rintro _ M8 ⟨rfl, e9⟩
    subst M8
    rw [show (mo M 30 b) 21 r = nI ((rwS F w f W H).2.1 r) from by rw [mo_q (by decide)]; exact (hS.2.2.1.2 r hr).1]
    refine G_iload dX5_cover_79 rfl ?_
    refine G_callVi (ν := uX5_placeIn) (As := [.inl (nI ((rwS F w f W H).2.1 r)), .inl (nI x)]) dX5_cover_81 nX5_129 kX5_placeIn rfl rfl rfl rfl rfl (Nat.le_of_ble_eq_true rfl) (c_placeIn (w := w) (by rw [mo_q (by decide)]; exact hS.1) w2 hin) ?_
    rintro _ M8 ⟨rfl, e9⟩
    subst M8
    have hpl := inG_lt hin
    refine G_istore (L2 := [some (.inr 17), some (.inr 1), some (.inl (nI r)), some (.inl (nI (((rwS F w f W H).2.2.1 r - pull)))), some (.inl (nI ((min ((rwS F w f W H).2.2.2 r + pull) (llO w W H - 1))))), some (.inl (nI x)), some (.inl (nI (plc w ((rwS F w f W H).2.1 r) x)))]) dX5_cover_84 (Nat.le_of_ble_eq_true rfl) rfl ?_
    refine G_iload dX5_cover_86 rfl ?_
    refine G_iconst (v := (nI 0)) dX5_cover_88 (by decide) ?_
    refine G_bipush (v := (nI 47)) dX5_cover_89 (by decide) ?_
    refine G_callSi (ν := uX9_within) (As := [.inl (nI (plc w ((rwS F w f W H).2.1 r) x)), .inl (nI 0), .inl (nI 47)]) dX5_cover_91 nX5_132 kX9_within rfl rfl rfl (Nat.le_of_ble_eq_true rfl) (c_within) ?_
    rintro _ M8 ⟨rfl, e9⟩
    subst M8
    rw [inr_nI (Nat.zero_le _) (by omega) (by decide)]
    refine Gb_if_eq (tgt := 105) dX5_cover_94 (by decide) (fun h94 => ?_) (fun h94 => ?_)
    · exact absurd h94 (by decide)
    · refine G_aload_n dX5_cover_97 rfl rfl ?_
      refine G_getR (j := 30) dX5_cover_98 fX5_46 rfl rfl ?_
      refine G_iload dX5_cover_101 rfl ?_
      refine G_iconst (v := (nI 1)) dX5_cover_103 (by decide) ?_
      refine G_zast (k := plc w ((rwS F w f W H).2.1 r) x) (v := (nI 1)) dX5_cover_104 rfl (vp_in_nI (by omega) (by omega)) (nI_clamp (by omega)) (by decide) ?_
      refine G_iinc (v := (nI (x + 1))) (L2 := [some (.inr 17), some (.inr 1), some (.inl (nI r)), some (.inl (nI (((rwS F w f W H).2.2.1 r - pull)))), some (.inl (nI ((min ((rwS F w f W H).2.2.2 r + pull) (llO w W H - 1))))), some (.inl (nI (x + 1))), some (.inl (nI (plc w ((rwS F w f W H).2.1 r) x)))]) dX5_cover_105 rfl (nI_1 _) rfl ?_
      refine G_goto (tgt := 63) dX5_cover_108 (by decide) ?_
      rw [ms_idem]
      refine ih ((min ((rwS F w f W H).2.2.2 r + pull) (llO w W H - 1)) + 1 - (x + 1)) (by omega) (x + 1) _ _ rfl (by omega) (by omega) (fun q hq => ?_)
      unfold upd
      by_cases e : q = plc w ((rwS F w f W H).2.1 r) x
      · rw [if_pos e]
        exact bI_dt (Or.inr ((covI_s hx3).mpr (Or.inr e)))
      · rw [if_neg e, hb q hq]
        exact congrArg bI (dec_eq ⟨fun z => z.elim Or.inl (fun y => Or.inr ((covI_s hx3).mpr (Or.inl y))), fun z => z.elim Or.inl (fun y => ((covI_s hx3).mp y).elim Or.inr (fun u => absurd u e))⟩)
theorem l_coverO {d w f W H m pull : Nat} {F : Nat → Option Nat} {M : Mem} (hS : SWx F w f W H m M) (hW : W ≤ 8) (hH : H ≤ 6) (w2 : w < 2) (hgW : M 2 0 = nI W) (hgH : M 2 1 = nI H) (hgp : M 2 3 = nI pull) (hp2 : pull ≤ 2) : ∀ (k r : Nat) (b : Nat → Int32) (x3 x4 x5 x6 : Option AV), (rwS F w f W H).1 - r = k → r ≤ (rwS F w f W H).1 → (∀ q, q < 48 → b q = bI (dec (covP w W H pull (rwS F w f W H) r q))) → G l α D cA uX5_cover none (d + 3) (fun _ M1 => ∃ b, M1 = mo M 30 b ∧ ∀ q, q < 48 → b q = bI (dec (covP w W H pull (rwS F w f W H) (rwS F w f W H).1 q))) 9 [some (.inr 17), some (.inr 1), some (.inl (nI r)), x3, x4, x5, x6] [] (mo M 30 b) := by
  intro k
  induction k using Nat.strongRecOn with
  | _ k ih => ?_
  intro r b x3 x4 x5 x6 hk hr0 hb
  have k0 := (rwS_RB (F := F) (w := w) (f := f) hW hH).1
  refine G_iload_n dX5_cover_9 rfl rfl ?_
  refine G_aload_n dX5_cover_10 rfl rfl ?_
  refine G_getI (v := (nI ((rwS F w f W H).1))) dX5_cover_11 fX5_69 rfl rfl (by rw [mo_q (by decide)]; exact hS.2.2.1.1) ?_
  refine Gn_icmp_ge (tgt := 117) dX5_cover_14 (by decide) (by omega) (by omega) (fun h14 => ?_) (fun h14 => ?_)
  · refine G_vret dX5_cover_117 rfl ?_
    have e : r = (rwS F w f W H).1 := by omega
    rw [e] at hb
    exact ⟨b, rfl, hb⟩
  · have hr : r < (rwS F w f W H).1 := by omega
    have k2 := (rwS_RB (F := F) (w := w) (f := f) hW hH).2 r hr
    obtain ⟨y1, y2, y3, y4, y5, y6⟩ := (rwS_RI (F := F) (w := w) (f := f) (W := W) (H := H)).2.1 r hr
    have hi : (rwS F w f W H).2.1 r < lcO w W H := by
      rcases (show (rwS F w f W H).2.1 r < lcO w W H ∨ (rwS F w f W H).2.1 r = lcO w W H by omega) with z | z
      · exact z
      · have := y4 z
        omega
    have hll := (ll_in hW hH hi y3).2.2.1
    refine G_aload_n dX5_cover_17 rfl rfl ?_
    refine G_getR (j := 22) dX5_cover_18 fX5_22 rfl rfl ?_
    refine G_iload_n dX5_cover_21 rfl rfl ?_
    refine G_callSi (ν := uX9_at) (As := [.inr 22, .inl (nI r)]) dX5_cover_22 nX5_72 kX9_at rfl rfl rfl (Nat.le_of_ble_eq_true rfl) (c_at (o := 22) (n := 48) rfl (by decide) (by omega)) ?_
    rintro _ M8 ⟨rfl, e9⟩
    subst M8
    rw [show (mo M 30 b) 22 r = nI ((rwS F w f W H).2.2.1 r) from by rw [mo_q (by decide)]; exact (hS.2.2.1.2 r hr).2.1]
    refine G_aload_n dX5_cover_25 rfl rfl ?_
    refine G_callVi (ν := uX0_pull) (As := []) dX5_cover_26 nX5_114 kX0_pull rfl rfl rfl rfl rfl (Nat.le_of_ble_eq_true rfl) (c_pull (o := 1) (v := 2) (x := nI pull) rfl rfl (by rw [mo_q (by decide)]; exact hgp)) ?_
    rintro _ M8 ⟨rfl, e9⟩
    subst M8
    refine G_isub (v := (nI ((rwS F w f W H).2.2.1 r) - nI pull)) dX5_cover_29 rfl ?_
    refine G_iconst (v := (nI 0)) dX5_cover_30 (by decide) ?_
    refine G_max (v := (nI (((rwS F w f W H).2.2.1 r - pull)))) dX5_cover_31 mX5_117 (Nat.le_of_ble_eq_true rfl) (max_sub (by omega) (by omega)) ?_
    refine G_istore_n (L2 := [some (.inr 17), some (.inr 1), some (.inl (nI r)), some (.inl (nI (((rwS F w f W H).2.2.1 r - pull)))), x4, x5, x6]) dX5_cover_34 rfl (Nat.le_of_ble_eq_true rfl) rfl ?_
    refine G_aload_n dX5_cover_35 rfl rfl ?_
    refine G_getR (j := 23) dX5_cover_36 fX5_25 rfl rfl ?_
    refine G_iload_n dX5_cover_39 rfl rfl ?_
    refine G_callSi (ν := uX9_at) (As := [.inr 23, .inl (nI r)]) dX5_cover_40 nX5_72 kX9_at rfl rfl rfl (Nat.le_of_ble_eq_true rfl) (c_at (o := 23) (n := 48) rfl (by decide) (by omega)) ?_
    rintro _ M8 ⟨rfl, e9⟩
    subst M8
    rw [show (mo M 30 b) 23 r = nI ((rwS F w f W H).2.2.2 r) from by rw [mo_q (by decide)]; exact (hS.2.2.1.2 r hr).2.2.1]
    refine G_aload_n dX5_cover_43 rfl rfl ?_
    refine G_callVi (ν := uX0_pull) (As := []) dX5_cover_44 nX5_114 kX0_pull rfl rfl rfl rfl rfl (Nat.le_of_ble_eq_true rfl) (c_pull (o := 1) (v := 2) (x := nI pull) rfl rfl (by rw [mo_q (by decide)]; exact hgp)) ?_
    rintro _ M8 ⟨rfl, e9⟩
    subst M8
    refine G_iadd (v := (nI (((rwS F w f W H).2.2.2 r) + pull))) dX5_cover_47 (nI_add _ _) ?_
    refine G_aload_n dX5_cover_48 rfl rfl ?_
    refine G_aload_n dX5_cover_49 rfl rfl ?_
    refine G_callVi (ν := uX5_lineLength) (As := [.inr 1]) dX5_cover_50 nX5_123 kX5_lineLength rfl rfl rfl rfl rfl (Nat.le_of_ble_eq_true rfl) (c_lineLength (w := w) (W := W) (H := H) (by rw [mo_q (by decide)]; exact hS.1) w2 (by rw [mo_q (by decide)]; exact hgW) (by rw [mo_q (by decide)]; exact hgH)) ?_
    rintro _ M8 ⟨rfl, e9⟩
    subst M8
    rw [show (if w = 0 then W else H) = llO w W H from rfl]
    refine G_iconst (v := (nI 1)) dX5_cover_53 (by decide) ?_
    refine G_isub (v := (nI ((llO w W H) - 1))) dX5_cover_54 (pk_sub (by omega)) ?_
    refine G_min (v := (nI ((min ((rwS F w f W H).2.2.2 r + pull) (llO w W H - 1))))) dX5_cover_55 mX5_126 (Nat.le_of_ble_eq_true rfl) (min_nI (by omega) (by omega)) ?_
    refine G_istore (L2 := [some (.inr 17), some (.inr 1), some (.inl (nI r)), some (.inl (nI (((rwS F w f W H).2.2.1 r - pull)))), some (.inl (nI ((min ((rwS F w f W H).2.2.2 r + pull) (llO w W H - 1))))), x5, x6]) dX5_cover_58 (Nat.le_of_ble_eq_true rfl) rfl ?_
    refine G_iload_n dX5_cover_60 rfl rfl ?_
    refine G_istore (L2 := [some (.inr 17), some (.inr 1), some (.inl (nI r)), some (.inl (nI (((rwS F w f W H).2.2.1 r - pull)))), some (.inl (nI ((min ((rwS F w f W H).2.2.2 r + pull) (llO w W H - 1))))), some (.inl (nI (((rwS F w f W H).2.2.1 r - pull)))), x6]) dX5_cover_61 (Nat.le_of_ble_eq_true rfl) rfl ?_
    refine l_coverI hS hW hH w2 hgW hgH hgp hp2 hr hi y3 ?_ _ ((rwS F w f W H).2.2.1 r - pull) b x6 rfl (Nat.le_refl _) (by omega) (fun q hq => by rw [hb q hq]; exact congrArg bI (dec_eq ⟨Or.inl, fun z => z.elim id (fun ⟨y, z1, z2, z3, z4, z5⟩ => absurd z1 (by omega))⟩))
    intro b2 z3 z4 z5 z6 hb2
    refine G_iinc (v := (nI (r + 1))) (L2 := [some (.inr 17), some (.inr 1), some (.inl (nI (r + 1))), z3, z4, z5, z6]) dX5_cover_111 rfl (nI_1 _) rfl ?_
    refine G_goto (tgt := 9) dX5_cover_114 (by decide) ?_
    exact ih ((rwS F w f W H).1 - (r + 1)) (by omega) (r + 1) b2 z3 z4 z5 z6 rfl (by omega) hb2
theorem c_cover {d w f W H m pull : Nat} {F : Nat → Option Nat} {M : Mem} (hS : SWx F w f W H m M) (hW : W ≤ 8) (hH : H ≤ 6) (w2 : w < 2) (hgW : M 2 0 = nI W) (hgH : M 2 1 = nI H) (hgp : M 2 3 = nI pull) (hp2 : pull ≤ 2) : Call l α D cA uX5_cover (d + 3) [.inr 17, .inr 1] M (fun _ M1 => ∃ b, M1 = mo M 30 b ∧ ∀ q, q < 48 → b q = bI (dec (covP w W H pull (rwS F w f W H) (rwS F w f W H).1 q))) := by
  refine Call.of kX5_cover.1 (Nat.le_of_ble_eq_true rfl) ?_
  refine G_aload_n dX5_cover_0 rfl rfl ?_
  refine G_getR (j := 30) dX5_cover_1 fX5_46 rfl rfl ?_
  refine G_callSv (ν := uX9_wipe) (As := [.inr 30]) dX5_cover_4 nX5_110 kX9_wipe rfl rfl rfl (Nat.le_of_ble_eq_true rfl) (c_wipe (o := 30) (n := 48) rfl (by decide)) ?_
  rintro _ M8 e9
  subst M8
  refine G_iconst (v := (nI 0)) dX5_cover_7 (by decide) ?_
  refine G_istore_n (L2 := [some (.inr 17), some (.inr 1), some (.inl (nI 0)), none, none, none, none]) dX5_cover_8 rfl (Nat.le_of_ble_eq_true rfl) rfl ?_
  exact l_coverO hS hW hH w2 hgW hgH hgp hp2 _ 0 _ none none none none rfl (Nat.zero_le _) (fun q hq => by rw [fil_in hq]; exact bI_df (fun ⟨r, h, _⟩ => Nat.not_lt_zero _ h))
theorem c_covCells {d : Nat} {P : Nat → Bool} {M : Mem} (hb : ∀ q, q < 48 → M 30 q = bI (P q)) : Call l α D cA uX5_coveredCells (d + 1) [.inr 17] M (fun r M1 => r = .inl (nI (fb_ct P 48)) ∧ M1 = M) := by
  refine Call.of kX5_coveredCells.1 (Nat.le_of_ble_eq_true rfl) ?_
  refine G_aload_n dX5_coveredCells_0 rfl rfl ?_
  refine G_getR (j := 30) dX5_coveredCells_1 fX5_46 rfl rfl ?_
  refine G_callSi (ν := uX9_countTrue) (As := [.inr 30]) dX5_coveredCells_4 nX5_136 kX9_countTrue rfl rfl rfl (Nat.le_of_ble_eq_true rfl) (c_count (o := 30) (n := 48) rfl (by decide) hb) ?_
  rintro _ M8 ⟨rfl, e9⟩
  subst M8
  refine G_iret dX5_coveredCells_7 rfl rfl ?_
  exact ⟨rfl, rfl⟩
theorem l_covOf {d c : Nat} {P : Nat → Bool} {g : Nat → Nat} {M : Mem} (hb : ∀ q, q < 48 → M 30 q = bI (P q)) (hg : hC g (M 2)) (h9 : g9 g) (hc : c < 2 ^ 31) : ∀ k i : Nat, 48 - i = k → i ≤ 48 → G l α D cA uX5_coveredOf none (d + 1) (fun r M1 => r = .inl (nI (fb_ct (fun q => P q && decide (g (12 + q) = c)) 48)) ∧ M1 = M) 5 [some (.inr 17), some (.inr 1), some (.inl (nI c)), some (.inl (nI ((fb_ct (fun q => P q && decide (g (12 + q) = c)) i)))), some (.inl (nI i))] [] M := by
  intro k
  induction k using Nat.strongRecOn with
  | _ k ih => ?_
  intro i hk hi
  have es : fb_ct (fun q => P q && decide (g (12 + q) = c)) (i + 1) = (fb_ct (fun q => P q && decide (g (12 + q) = c)) i) + (if (P i && decide (g (12 + i) = c)) = true then 1 else 0) := rfl
  refine G_iload dX5_coveredOf_5 rfl ?_
  refine G_bipush (v := (nI 48)) dX5_coveredOf_7 (by decide) ?_
  refine Gn_icmp_ge (tgt := 46) dX5_coveredOf_9 (by decide) (by omega) (by omega) (fun hq9 => ?_) (fun hq9 => ?_)
  · refine G_iload_n dX5_coveredOf_46 rfl rfl ?_
    refine G_iret dX5_coveredOf_47 rfl rfl ?_
    have e : i = 48 := by omega
    subst e
    exact ⟨rfl, rfl⟩
  · refine G_iload_n dX5_coveredOf_12 rfl rfl ?_
    refine G_aload_n dX5_coveredOf_13 rfl rfl ?_
    refine G_getR (j := 30) dX5_coveredOf_14 fX5_46 rfl rfl ?_
    refine G_iload dX5_coveredOf_17 rfl ?_
    refine G_zald (k := i) (v := (bI (P i))) dX5_coveredOf_19 rfl (vp_in_nI (by omega) (by omega)) (nI_clamp (by omega)) (hb i (by omega)) ?_
    refine Gb_if_eq (tgt := 37) dX5_coveredOf_20 (by decide) (fun h20 => ?_) (fun h20 => ?_)
    · refine G_iconst (v := (nI 0)) dX5_coveredOf_37 (by decide) ?_
      refine G_iadd (v := (nI (((fb_ct (fun q => P q && decide (g (12 + q) = c)) i)) + 0))) dX5_coveredOf_38 (nI_add _ _) ?_
      refine G_istore_n (L2 := [some (.inr 17), some (.inr 1), some (.inl (nI c)), some (.inl (nI (((fb_ct (fun q => P q && decide (g (12 + q) = c)) i)) + 0))), some (.inl (nI i))]) dX5_coveredOf_39 rfl (Nat.le_of_ble_eq_true rfl) rfl ?_
      refine G_iinc (v := (nI (i + 1))) (L2 := [some (.inr 17), some (.inr 1), some (.inl (nI c)), some (.inl (nI (((fb_ct (fun q => P q && decide (g (12 + q) = c)) i)) + 0))), some (.inl (nI (i + 1)))]) dX5_coveredOf_40 rfl (nI_1 _) rfl ?_
      refine G_goto (tgt := 5) dX5_coveredOf_43 (by decide) ?_
      rw [h20, Bool.false_and] at es
      rw [show (fb_ct (fun q => P q && decide (g (12 + q) = c)) i) + 0 = fb_ct (fun q => P q && decide (g (12 + q) = c)) (i + 1) from es.symm]
      exact ih (48 - (i + 1)) (by omega) (i + 1) rfl (by omega)
    · refine G_aload_n dX5_coveredOf_23 rfl rfl ?_
      refine G_iload dX5_coveredOf_24 rfl ?_
      refine G_callVi (ν := uX0_colourAt) (As := [.inl (nI i)]) dX5_coveredOf_26 nX5_140 kX0_colourAt rfl rfl rfl rfl rfl (Nat.le_of_ble_eq_true rfl) (c_colourAt (o := 1) (v := 2) rfl rfl hg (by omega)) ?_
      rintro _ M8 ⟨rfl, e9⟩
      subst M8
      have hb9 := h9 (12 + i) (by omega)
      refine G_iload_n dX5_coveredOf_29 rfl rfl ?_
      refine Gn_icmp_ne (tgt := 37) dX5_coveredOf_30 (by decide) (by omega) (by omega) (fun h30 => ?_) (fun h30 => ?_)
      · refine G_iconst (v := (nI 0)) dX5_coveredOf_37 (by decide) ?_
        refine G_iadd (v := (nI (((fb_ct (fun q => P q && decide (g (12 + q) = c)) i)) + 0))) dX5_coveredOf_38 (nI_add _ _) ?_
        refine G_istore_n (L2 := [some (.inr 17), some (.inr 1), some (.inl (nI c)), some (.inl (nI (((fb_ct (fun q => P q && decide (g (12 + q) = c)) i)) + 0))), some (.inl (nI i))]) dX5_coveredOf_39 rfl (Nat.le_of_ble_eq_true rfl) rfl ?_
        refine G_iinc (v := (nI (i + 1))) (L2 := [some (.inr 17), some (.inr 1), some (.inl (nI c)), some (.inl (nI (((fb_ct (fun q => P q && decide (g (12 + q) = c)) i)) + 0))), some (.inl (nI (i + 1)))]) dX5_coveredOf_40 rfl (nI_1 _) rfl ?_
        refine G_goto (tgt := 5) dX5_coveredOf_43 (by decide) ?_
        rw [h20, show decide (g (12 + i) = c) = false from decide_eq_false h30] at es
        rw [show (fb_ct (fun q => P q && decide (g (12 + q) = c)) i) + 0 = fb_ct (fun q => P q && decide (g (12 + q) = c)) (i + 1) from es.symm]
        exact ih (48 - (i + 1)) (by omega) (i + 1) rfl (by omega)
      · refine G_iconst (v := (nI 1)) dX5_coveredOf_33 (by decide) ?_
        refine G_goto (tgt := 38) dX5_coveredOf_34 (by decide) ?_
        refine G_iadd (v := (nI (((fb_ct (fun q => P q && decide (g (12 + q) = c)) i)) + 1))) dX5_coveredOf_38 (nI_add _ _) ?_
        refine G_istore_n (L2 := [some (.inr 17), some (.inr 1), some (.inl (nI c)), some (.inl (nI (((fb_ct (fun q => P q && decide (g (12 + q) = c)) i)) + 1))), some (.inl (nI i))]) dX5_coveredOf_39 rfl (Nat.le_of_ble_eq_true rfl) rfl ?_
        refine G_iinc (v := (nI (i + 1))) (L2 := [some (.inr 17), some (.inr 1), some (.inl (nI c)), some (.inl (nI (((fb_ct (fun q => P q && decide (g (12 + q) = c)) i)) + 1))), some (.inl (nI (i + 1)))]) dX5_coveredOf_40 rfl (nI_1 _) rfl ?_
        refine G_goto (tgt := 5) dX5_coveredOf_43 (by decide) ?_
        rw [h20, show decide (g (12 + i) = c) = true from decide_eq_true h30] at es
        rw [show (fb_ct (fun q => P q && decide (g (12 + q) = c)) i) + 1 = fb_ct (fun q => P q && decide (g (12 + q) = c)) (i + 1) from es.symm]
        exact ih (48 - (i + 1)) (by omega) (i + 1) rfl (by omega)
theorem c_covOf {d c : Nat} {P : Nat → Bool} {g : Nat → Nat} {M : Mem} (hb : ∀ q, q < 48 → M 30 q = bI (P q)) (hg : hC g (M 2)) (h9 : g9 g) (hc : c < 2 ^ 31) : Call l α D cA uX5_coveredOf (d + 1) [.inr 17, .inr 1, .inl (nI c)] M (fun r M1 => r = .inl (nI (fb_ct (fun q => P q && decide (g (12 + q) = c)) 48)) ∧ M1 = M) := by
  refine Call.of kX5_coveredOf.1 (Nat.le_of_ble_eq_true rfl) ?_
  refine G_iconst (v := (nI 0)) dX5_coveredOf_0 (by decide) ?_
  refine G_istore_n (L2 := [some (.inr 17), some (.inr 1), some (.inl (nI c)), some (.inl (nI 0)), none]) dX5_coveredOf_1 rfl (Nat.le_of_ble_eq_true rfl) rfl ?_
  refine G_iconst (v := (nI 0)) dX5_coveredOf_2 (by decide) ?_
  refine G_istore (L2 := [some (.inr 17), some (.inr 1), some (.inl (nI c)), some (.inl (nI 0)), some (.inl (nI 0))]) dX5_coveredOf_3 (Nat.le_of_ble_eq_true rfl) rfl ?_
  exact l_covOf hb hg h9 hc _ 0 rfl (Nat.zero_le _)
end P19
