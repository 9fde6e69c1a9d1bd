/-! Wave: the map's (9, 10, 11) and the sewing's (18, 19, 20); History (38, 39, 40 to 45) -/
section P13
variable {l : Launch} {α : Nat → Nat} {D : va_G} {cA : Nat → ClassId}
theorem oI_none {r : Option Nat} (hr : ∀ t, r = some t → t < 2 ^ 31) : oI r = -9 ↔ r = none := by
  cases r with
  | none => exact ⟨fun _ => rfl, fun _ => rfl⟩
  | some t =>
    refine ⟨fun h => ?_, fun h => by cases h⟩
    have h1 := nI_pos (hr t rfl)
    have h : nI t = -9 := h
    rw [h] at h1
    exact absurd (by decide) h1
/-- what the wave's cells hold -/
def WV (M : Mem) (W A B n : Nat) (R : Nat → Nat) (T : Nat → Option Nat) : Prop := M W 2 = nI n ∧ (∀ j, j < n → M A j = nI (R j)) ∧ ∀ q, q < 48 → M B q = oI (T q)
theorem c_reach_m {d q n : Nat} {t : Int32} {M : Mem} (hq : q < 48) (hn : n < 48) (hM : M 9 2 = nI n) : Call l α D cA uX8_reach d [.inr 9, .inl (nI q), .inl t] M (fun _ M1 => M1 = ms (ms (ms M 10 n (nI q)) 11 q t) 9 2 (nI (n + 1))) := by
  refine Call.of kX8_reach.1 (Nat.le_of_ble_eq_true rfl) ?_
  refine G_iload_n dX8_reach_0 rfl rfl ?_
  refine Gn_if_lt (tgt := 53) dX8_reach_1 (by decide) (by omega) (fun h1 => ?_) (fun h1 => ?_)
  · omega
  · refine G_iload_n dX8_reach_4 rfl rfl ?_
    refine G_bipush (v := (nI 48)) dX8_reach_5 (by decide) ?_
    refine Gn_icmp_ge (tgt := 53) dX8_reach_7 (by decide) (by omega) (by omega) (fun h7 => ?_) (fun h7 => ?_)
    · omega
    · refine G_aload_n dX8_reach_10 rfl rfl ?_
      refine G_getI (v := (nI n)) dX8_reach_11 fX8_24 rfl rfl hM ?_
      refine Gn_if_lt (tgt := 53) dX8_reach_14 (by decide) (by omega) (fun h14 => ?_) (fun h14 => ?_)
      · omega
      · refine G_aload_n dX8_reach_17 rfl rfl ?_
        refine G_getI (v := (nI n)) dX8_reach_18 fX8_24 rfl rfl hM ?_
        refine G_bipush (v := (nI 48)) dX8_reach_21 (by decide) ?_
        refine Gn_icmp_ge (tgt := 53) dX8_reach_23 (by decide) (by omega) (by omega) (fun h23 => ?_) (fun h23 => ?_)
        · omega
        · refine G_aload_n dX8_reach_26 rfl rfl ?_
          refine G_getR (j := 10) dX8_reach_27 fX8_9 rfl rfl ?_
          refine G_aload_n dX8_reach_30 rfl rfl ?_
          refine G_getI (v := (nI n)) dX8_reach_31 fX8_24 rfl rfl hM ?_
          refine G_iload_n dX8_reach_34 rfl rfl ?_
          refine G_iast (k := n) (v := (nI q)) dX8_reach_35 rfl (vp_in_nI (by omega) (by omega)) (nI_clamp (by omega)) rfl ?_
          refine G_aload_n dX8_reach_36 rfl rfl ?_
          refine G_getR (j := 11) dX8_reach_37 fX8_15 rfl rfl ?_
          refine G_iload_n dX8_reach_40 rfl rfl ?_
          refine G_iload_n dX8_reach_41 rfl rfl ?_
          refine G_iast (k := q) (v := t) dX8_reach_42 rfl (vp_in_nI (by omega) (by omega)) (nI_clamp (by omega)) rfl ?_
          refine G_aload_n dX8_reach_43 rfl rfl ?_
          refine G_dup dX8_reach_44 ?_
          refine G_getI (v := (nI n)) dX8_reach_45 fX8_24 rfl rfl (by simp [ms, upd, hM]) ?_
          refine G_iconst (v := (nI 1)) dX8_reach_48 (by decide) ?_
          refine G_iadd (v := (nI (n + 1))) dX8_reach_49 (nI_add _ _) ?_
          refine G_put dX8_reach_50 pX8_24 rfl rfl ?_
          refine G_vret dX8_reach_53 rfl ?_
          exact rfl
theorem c_stepsTo_m {d q : Nat} {M : Mem} (hq : q < 48) : Call l α D cA uX8_stepsTo d [.inr 9, .inl (nI q)] M (fun r M1 => r = .inl (M 11 q) ∧ M1 = M) := by
  refine Call.of kX8_stepsTo.1 (Nat.le_of_ble_eq_true rfl) ?_
  refine G_iload_n dX8_stepsTo_0 rfl rfl ?_
  refine Gn_if_lt (tgt := 19) dX8_stepsTo_1 (by decide) (by omega) (fun h1 => ?_) (fun h1 => ?_)
  · omega
  · refine G_iload_n dX8_stepsTo_4 rfl rfl ?_
    refine G_bipush (v := (nI 48)) dX8_stepsTo_5 (by decide) ?_
    refine Gn_icmp_ge (tgt := 19) dX8_stepsTo_7 (by decide) (by omega) (by omega) (fun h7 => ?_) (fun h7 => ?_)
    · omega
    · refine G_aload_n dX8_stepsTo_10 rfl rfl ?_
      refine G_getR (j := 11) dX8_stepsTo_11 fX8_15 rfl rfl ?_
      refine G_iload_n dX8_stepsTo_14 rfl rfl ?_
      refine G_iald (k := q) (v := (M 11 q)) dX8_stepsTo_15 rfl (vp_in_nI (by omega) (by omega)) (nI_clamp (by omega)) rfl ?_
      refine G_goto (tgt := 21) dX8_stepsTo_16 (by decide) ?_
      refine G_iret dX8_stepsTo_21 rfl rfl ?_
      exact ⟨rfl, rfl⟩
theorem c_wsize_m {d : Nat} {x : Int32} {M : Mem} (hM : M 9 2 = x) : Call l α D cA uX8_size d [.inr 9] M (fun r M1 => r = .inl x ∧ M1 = M) := by
  refine Call.of kX8_size.1 (Nat.le_of_ble_eq_true rfl) ?_
  refine G_aload_n dX8_size_0 rfl rfl ?_
  refine G_getI (v := x) dX8_size_1 fX8_24 rfl rfl hM ?_
  refine G_iret dX8_size_4 rfl rfl ?_
  exact ⟨rfl, rfl⟩
theorem c_place_m {d i : Nat} {M : Mem} (hi : i < 48) : Call l α D cA uX8_place (d + 1) [.inr 9, .inl (nI i)] M (fun r M1 => r = .inl (M 10 i) ∧ M1 = M) := by
  refine Call.of kX8_place.1 (Nat.le_of_ble_eq_true rfl) ?_
  refine G_aload_n dX8_place_0 rfl rfl ?_
  refine G_getR (j := 10) dX8_place_1 fX8_9 rfl rfl ?_
  refine G_iload_n dX8_place_4 rfl rfl ?_
  refine G_callSi (ν := uX9_at) (As := [.inr 10, .inl (nI i)]) dX8_place_5 nX8_45 kX9_at rfl rfl rfl (Nat.le_of_ble_eq_true rfl) (c_at (o := 10) (n := 48) rfl (by decide) hi) ?_
  rintro _ M9 ⟨rfl, e9⟩
  subst M9
  refine G_iret dX8_place_8 rfl rfl ?_
  exact ⟨rfl, rfl⟩
/-- what is kept: all but the wave's own -/
def FR_m (M M1 : Mem) : Prop := ∀ q, q ≠ 9 → q ≠ 10 → q ≠ 11 → M1 q = M q
/-- the post of a spread -/
def SP_m (g : Nat → Nat) (f : Nat) (M M1 : Mem) : Prop := FR_m M M1 ∧ ∃ (n : Nat) (R : Nat → Nat) (T : Nat → Option Nat), WV M1 9 10 11 n R T ∧ WE g f n R T
theorem FR_reach_m {M M1 : Mem} {n q t : Nat} (h : FR_m M M1) : FR_m M (ms (ms (ms M1 10 n (nI q)) 11 q (nI t)) 9 2 (nI (n + 1))) := fun x h1 h2 h3 => by
  rw [ms_q h1, ms_q h3, ms_q h2]
  exact h x h1 h2 h3
theorem WV_reach_m {M1 : Mem} {n q t : Nat} {R : Nat → Nat} {T : Nat → Option Nat} (h : WV M1 9 10 11 n R T) (hn : n < 48) (hq : q < 48) : WV (ms (ms (ms M1 10 n (nI q)) 11 q (nI t)) 9 2 (nI (n + 1))) 9 10 11 (n + 1) (updN R n q) (updO T q t) := by
  refine ⟨by simp [ms, upd], fun j hj => ?_, fun x hx => ?_⟩
  · rw [ms_q (by decide), ms_q (by decide), ms_o]
    unfold upd updN
    by_cases e : j = n
    · rw [if_pos e, if_pos e]
    · rw [if_neg e, if_neg e]
      exact h.2.1 j (by omega)
  · rw [ms_q (by decide), ms_o, ms_q (by decide)]
    unfold upd updO
    by_cases e : x = q
    · rw [if_pos e, if_pos e]
      rfl
    · rw [if_neg e, if_neg e]
      exact h.2.2 x hx
theorem l_spreadI_m {d f i : Nat} {g : Nat → Nat} {M : Mem} {Q : AV → Mem → Prop} (h9 : g9 g) (hf : f < 48) (hc0 : g (12 + f) ≠ 0)
  (out : ∀ (n : Nat) (R D' : Nat → Nat) (T : Nat → Option Nat) (M1 : Mem) (x4 x5 x6 : Option AV), hC g (M1 2) → FR_m M M1 → WV M1 9 10 11 n R T → i < n → BI g f i 4 n R D' T → G l α D cA uX8_spread none (d + 1) Q 107 [some (.inr 9), some (.inr 1), some (.inl (nI f)), some (.inl (nI i)), x4, x5, x6] [] M1) :
  ∀ (k s n : Nat) (R D' : Nat → Nat) (T : Nat → Option Nat) (M1 : Mem) (x : Option AV), 4 - s = k → s ≤ 4 → hC g (M1 2) → FR_m M M1 → WV M1 9 10 11 n R T → i < n → BI g f i s n R D' T → G l α D cA uX8_spread none (d + 1) Q 47 [some (.inr 9), some (.inr 1), some (.inl (nI f)), some (.inl (nI i)), some (.inl (nI ((R i)))), some (.inl (nI s)), x] [] M1 := by
  intro k
  induction k using Nat.strongRecOn with
  | _ k ih => ?_
  intro s n R D' T M1 x hk hs hg hF hw hi hB
  have hb1 := h9 (12 + f) (by omega)
  refine G_iload dX8_spread_47 rfl ?_
  refine G_iconst (v := (nI 4)) dX8_spread_49 (by decide) ?_
  refine Gn_icmp_ge (tgt := 107) dX8_spread_50 (by decide) (by omega) (by omega) (fun h50 => ?_) (fun h50 => ?_)
  · have e : s = 4 := by omega
    subst e
    exact out n R D' T M1 _ _ _ hg hF hw hi hB
  · refine G_iload dX8_spread_53 rfl ?_
    refine G_iload dX8_spread_55 rfl ?_
    refine G_callSi (ν := uX9_beside) (As := [.inl (nI ((R i))), .inl (nI s)]) dX8_spread_57 nX8_32 kX9_beside rfl rfl rfl (Nat.le_of_ble_eq_true rfl) (c_beside ((hB.2.1 i hi).1) (by omega)) ?_
    rintro _ M9 ⟨rfl, e9⟩
    subst M9
    refine G_istore (L2 := [some (.inr 9), some (.inr 1), some (.inl (nI f)), some (.inl (nI i)), some (.inl (nI ((R i)))), some (.inl (nI s)), some (.inl (oI (nbr (R i) s)))]) dX8_spread_60 (Nat.le_of_ble_eq_true rfl) rfl ?_
    refine G_aload_n dX8_spread_62 rfl rfl ?_
    refine G_iload dX8_spread_63 rfl ?_
    refine G_callVi (ν := uX0_colourAt) (As := [.inl (oI (nbr (R i) s))]) dX8_spread_65 nX8_36 kX0_colourAt rfl rfl rfl rfl rfl (Nat.le_of_ble_eq_true rfl) (c_colour (o := 1) (v := 2) rfl rfl hg (fun _ h => nbr_lt ((hB.2.1 i hi).1) h)) ?_
    rintro _ M9 ⟨rfl, e9⟩
    subst M9
    refine G_aload_n dX8_spread_68 rfl rfl ?_
    refine G_iload_n dX8_spread_69 rfl rfl ?_
    refine G_callVi (ν := uX0_colourAt) (As := [.inl (nI f)]) dX8_spread_70 nX8_36 kX0_colourAt rfl rfl rfl rfl rfl (Nat.le_of_ble_eq_true rfl) (c_colourAt (o := 1) (v := 2) rfl rfl hg hf) ?_
    rintro _ M9 ⟨rfl, e9⟩
    subst M9
    have hb2 := colr_nbr (s := s) h9 ((hB.2.1 i hi).1)
    refine Gn_icmp_ne (tgt := 101) dX8_spread_73 (by decide) (by omega) (by omega) (fun h73 => ?_) (fun h73 => ?_)
    · refine G_iinc (v := (nI (s + 1))) (L2 := [some (.inr 9), some (.inr 1), some (.inl (nI f)), some (.inl (nI i)), some (.inl (nI ((R i)))), some (.inl (nI (s + 1))), some (.inl (oI (nbr (R i) s)))]) dX8_spread_101 rfl (nI_1 _) rfl ?_
      refine G_goto (tgt := 47) dX8_spread_104 (by decide) ?_
      exact ih (4 - (s + 1)) (by omega) (s + 1) n R D' T M1 _ rfl (by omega) hg hF hw hi (BI_skip hB hi (fun q e c => absurd (by rw [e]; exact c) h73))
    · obtain ⟨q, hq⟩ : ∃ q, nbr (R i) s = some q := by
        cases hz : nbr (R i) s with
        | none => rw [hz] at h73; exact absurd h73.symm hc0
        | some q => exact ⟨q, rfl⟩
      have hq48 := nbr_lt ((hB.2.1 i hi).1) hq
      have hcq : g (12 + q) = g (12 + f) := by rw [hq] at h73; exact h73
      rw [hq, show oI (some q) = nI q from rfl]
      refine G_aload_n dX8_spread_76 rfl rfl ?_
      refine G_iload dX8_spread_77 rfl ?_
      refine G_callVi (ν := uX8_stepsTo) (As := [.inl (nI q)]) dX8_spread_79 nX8_42 kX8_stepsTo rfl rfl rfl rfl rfl (Nat.le_of_ble_eq_true rfl) (c_stepsTo_m hq48) ?_
      rintro _ M9 ⟨rfl, e9⟩
      subst M9
      rw [hw.2.2 q hq48]
      refine G_bipush (v := ((-9))) dX8_spread_82 (by decide) ?_
      refine G_icmp_ne (tgt := 101) dX8_spread_84 (by decide) (fun h84 => ?_) (fun h84 => ?_)
      · refine G_iinc (v := (nI (s + 1))) (L2 := [some (.inr 9), some (.inr 1), some (.inl (nI f)), some (.inl (nI i)), some (.inl (nI ((R i)))), some (.inl (nI (s + 1))), some (.inl (nI q))]) dX8_spread_101 rfl (nI_1 _) rfl ?_
        refine G_goto (tgt := 47) dX8_spread_104 (by decide) ?_
        exact ih (4 - (s + 1)) (by omega) (s + 1) n R D' T M1 _ rfl (by omega) hg hF hw hi (BI_skip hB hi (fun q2 e c => by
          rw [hq] at e
          cases e
          cases hz : T q with
          | none => exact absurd (by rw [hz]; rfl) h84
          | some t => exact ⟨t, rfl⟩))
      · refine G_aload_n dX8_spread_87 rfl rfl ?_
        refine G_iload dX8_spread_88 rfl ?_
        refine G_aload_n dX8_spread_90 rfl rfl ?_
        refine G_iload dX8_spread_91 rfl ?_
        refine G_callVi (ν := uX8_stepsTo) (As := [.inl (nI ((R i)))]) dX8_spread_93 nX8_42 kX8_stepsTo rfl rfl rfl rfl rfl (Nat.le_of_ble_eq_true rfl) (c_stepsTo_m ((hB.2.1 i hi).1)) ?_
        rintro _ M9 ⟨rfl, e9⟩
        subst M9
        rw [hw.2.2 _ ((hB.2.1 i hi).1), (hB.2.1 i hi).2.2, show oI (some (D' i)) = nI (D' i) from rfl]
        refine G_iconst (v := (nI 1)) dX8_spread_96 (by decide) ?_
        refine G_iadd (v := (nI ((D' i) + 1))) dX8_spread_97 (nI_add _ _) ?_
        have hn : T q = none := (oI_none (fun t ht => by have := BI_lt hB q t ht; omega)).mp h84
        have hn48 := BI_room hB hq48 hn
        refine G_callVv (ν := uX8_reach) (As := [.inl (nI q), .inl (nI ((D' i) + 1))]) dX8_spread_98 nX8_28 kX8_reach rfl rfl rfl rfl rfl (Nat.le_of_ble_eq_true rfl) (c_reach_m hq48 hn48 hw.1) ?_
        rintro _ M9 e9
        subst M9
        refine G_iinc (v := (nI (s + 1))) (L2 := [some (.inr 9), some (.inr 1), some (.inl (nI f)), some (.inl (nI i)), some (.inl (nI ((R i)))), some (.inl (nI (s + 1))), some (.inl (nI q))]) dX8_spread_101 rfl (nI_1 _) rfl ?_
        refine G_goto (tgt := 47) dX8_spread_104 (by decide) ?_
        have eR : updN R n q i = R i := updN_n (by omega)
        rw [← eR]
        exact ih (4 - (s + 1)) (by omega) (s + 1) (n + 1) (updN R n q) _ _ _ _ rfl (by omega) (by simpa [ms] using hg) (FR_reach_m hF) (WV_reach_m hw hn48 hq48) (by omega) (BI_reach hB hi (by omega) hq hcq hn)
theorem l_spreadO_m {d f : Nat} {g : Nat → Nat} {M : Mem} (h9 : g9 g) (hf : f < 48) (hc0 : g (12 + f) ≠ 0) :
  ∀ (k i n : Nat) (R D' : Nat → Nat) (T : Nat → Option Nat) (M1 : Mem) (x4 x5 x6 : Option AV), 48 - i = k → hC g (M1 2) → FR_m M M1 → WV M1 9 10 11 n R T → BI g f i 0 n R D' T → G l α D cA uX8_spread none (d + 1) (fun _ M1 => SP_m g f M M1) 22 [some (.inr 9), some (.inr 1), some (.inl (nI f)), some (.inl (nI i)), x4, x5, x6] [] M1 := by
  intro k
  induction k using Nat.strongRecOn with
  | _ k ih => ?_
  intro i n R D' T M1 x4 x5 x6 hk hg hF hw hB
  have hle := hB.1.1
  have hin := hB.1.2.1
  refine G_iload_n dX8_spread_22 rfl rfl ?_
  refine G_aload_n dX8_spread_23 rfl rfl ?_
  refine G_getI (v := (nI n)) dX8_spread_24 fX8_24 rfl rfl hw.1 ?_
  refine Gn_icmp_ge (tgt := 113) dX8_spread_27 (by decide) (by omega) (by omega) (fun h27 => ?_) (fun h27 => ?_)
  · refine G_vret dX8_spread_113 rfl ?_
    have e : i = n := by omega
    subst e
    exact ⟨hF, i, R, T, hw, BI_end hB⟩
  · refine G_iload_n dX8_spread_30 rfl rfl ?_
    refine G_bipush (v := (nI 48)) dX8_spread_31 (by decide) ?_
    refine Gn_icmp_ge (tgt := 113) dX8_spread_33 (by decide) (by omega) (by omega) (fun h33 => ?_) (fun h33 => ?_)
    · omega
    · refine G_aload_n dX8_spread_36 rfl rfl ?_
      refine G_getR (j := 10) dX8_spread_37 fX8_9 rfl rfl ?_
      refine G_iload_n dX8_spread_40 rfl rfl ?_
      refine G_iald (k := i) (v := (nI ((R i)))) dX8_spread_41 rfl (vp_in_nI (by omega) (by omega)) (nI_clamp (by omega)) (hw.2.1 i (by omega)) ?_
      refine G_istore (L2 := [some (.inr 9), some (.inr 1), some (.inl (nI f)), some (.inl (nI i)), some (.inl (nI ((R i)))), x5, x6]) dX8_spread_42 (Nat.le_of_ble_eq_true rfl) rfl ?_
      refine G_iconst (v := (nI 0)) dX8_spread_44 (by decide) ?_
      refine G_istore (L2 := [some (.inr 9), some (.inr 1), some (.inl (nI f)), some (.inl (nI i)), some (.inl (nI ((R i)))), some (.inl (nI 0)), x6]) dX8_spread_45 (Nat.le_of_ble_eq_true rfl) rfl ?_
      refine l_spreadI_m h9 hf hc0 ?_ 4 0 n R D' T M1 _ rfl (by omega) hg hF hw (by omega) hB
      intro n R D' T M1 x4 x5 x6 hg hF hw hi hB
      refine G_iinc (v := (nI (i + 1))) (L2 := [some (.inr 9), some (.inr 1), some (.inl (nI f)), some (.inl (nI (i + 1))), x4, x5, x6]) dX8_spread_107 rfl (nI_1 _) rfl ?_
      refine G_goto (tgt := 22) dX8_spread_110 (by decide) ?_
      exact ih (48 - (i + 1)) (by have := hB.1.1; omega) (i + 1) n R D' T M1 x4 x5 x6 rfl hg hF hw (BI_next hB hi)
theorem c_spread_m {d f : Nat} {g : Nat → Nat} {M : Mem} (hg : hC g (M 2)) (h9 : g9 g) (hf : f < 48) (hc0 : g (12 + f) ≠ 0) : Call l α D cA uX8_spread (d + 1) [.inr 9, .inr 1, .inl (nI f)] M (fun _ M1 => SP_m g f M M1) := by
  refine Call.of kX8_spread.1 (Nat.le_of_ble_eq_true rfl) ?_
  refine G_aload_n dX8_spread_0 rfl rfl ?_
  refine G_getR (j := 11) dX8_spread_1 fX8_15 rfl rfl ?_
  refine G_bipush (v := ((-9))) dX8_spread_4 (by decide) ?_
  refine G_callSv (ν := uJ7_fill_53178) (As := [.inr 11, .inl (-9)]) dX8_spread_6 nX8_18 kJ7_fill_53178 rfl rfl rfl (Nat.le_of_ble_eq_true rfl) (c_fill (o := 11) (n := 48) rfl (by decide)) ?_
  rintro _ M9 e9
  subst M9
  refine G_aload_n dX8_spread_9 rfl rfl ?_
  refine G_iconst (v := (nI 0)) dX8_spread_10 (by decide) ?_
  refine G_put dX8_spread_11 pX8_24 rfl rfl ?_
  refine G_aload_n dX8_spread_14 rfl rfl ?_
  refine G_iload_n dX8_spread_15 rfl rfl ?_
  refine G_iconst (v := (nI 0)) dX8_spread_16 (by decide) ?_
  refine G_callVv (ν := uX8_reach) (As := [.inl (nI f), .inl (nI 0)]) dX8_spread_17 nX8_28 kX8_reach rfl rfl rfl rfl rfl (Nat.le_of_ble_eq_true rfl) (c_reach_m (n := 0) hf (by decide) (by simp [ms, upd])) ?_
  rintro _ M9 e9
  subst M9
  refine G_iconst (v := (nI 0)) dX8_spread_20 (by decide) ?_
  refine G_istore_n (L2 := [some (.inr 9), some (.inr 1), some (.inl (nI f)), some (.inl (nI 0)), none, none, none]) dX8_spread_21 rfl (Nat.le_of_ble_eq_true rfl) rfl ?_
  refine l_spreadO_m h9 hf hc0 48 0 1 (fun _ => f) (fun _ => 0) _ _ none none none rfl ?_ ?_ ?_ (BI_start hf hc0)
  · simpa [ms, mo] using hg
  · intro q h1 h2 h3
    simp [ms, mo, h1, h2, h3]
  · refine ⟨by simp [ms, upd], fun j hj => ?_, fun q hq => ?_⟩
    · have e : j = 0 := by omega
      subst e
      simp [ms, upd]
    · simp only [ms, mo, upd, fil]
      by_cases e : q = f
      · simp [e, oI, upd]
      · simp [e, oI, hq, upd, fil]
theorem c_reach_s {d q n : Nat} {t : Int32} {M : Mem} (hq : q < 48) (hn : n < 48) (hM : M 18 2 = nI n) : Call l α D cA uX8_reach d [.inr 18, .inl (nI q), .inl t] M (fun _ M1 => M1 = ms (ms (ms M 19 n (nI q)) 20 q t) 18 2 (nI (n + 1))) := by
  refine Call.of kX8_reach.1 (Nat.le_of_ble_eq_true rfl) ?_
  refine G_iload_n dX8_reach_0 rfl rfl ?_
  refine Gn_if_lt (tgt := 53) dX8_reach_1 (by decide) (by omega) (fun h1 => ?_) (fun h1 => ?_)
  · omega
  · refine G_iload_n dX8_reach_4 rfl rfl ?_
    refine G_bipush (v := (nI 48)) dX8_reach_5 (by decide) ?_
    refine Gn_icmp_ge (tgt := 53) dX8_reach_7 (by decide) (by omega) (by omega) (fun h7 => ?_) (fun h7 => ?_)
    · omega
    · refine G_aload_n dX8_reach_10 rfl rfl ?_
      refine G_getI (v := (nI n)) dX8_reach_11 fX8_24 rfl rfl hM ?_
      refine Gn_if_lt (tgt := 53) dX8_reach_14 (by decide) (by omega) (fun h14 => ?_) (fun h14 => ?_)
      · omega
      · refine G_aload_n dX8_reach_17 rfl rfl ?_
        refine G_getI (v := (nI n)) dX8_reach_18 fX8_24 rfl rfl hM ?_
        refine G_bipush (v := (nI 48)) dX8_reach_21 (by decide) ?_
        refine Gn_icmp_ge (tgt := 53) dX8_reach_23 (by decide) (by omega) (by omega) (fun h23 => ?_) (fun h23 => ?_)
        · omega
        · refine G_aload_n dX8_reach_26 rfl rfl ?_
          refine G_getR (j := 19) dX8_reach_27 fX8_9 rfl rfl ?_
          refine G_aload_n dX8_reach_30 rfl rfl ?_
          refine G_getI (v := (nI n)) dX8_reach_31 fX8_24 rfl rfl hM ?_
          refine G_iload_n dX8_reach_34 rfl rfl ?_
          refine G_iast (k := n) (v := (nI q)) dX8_reach_35 rfl (vp_in_nI (by omega) (by omega)) (nI_clamp (by omega)) rfl ?_
          refine G_aload_n dX8_reach_36 rfl rfl ?_
          refine G_getR (j := 20) dX8_reach_37 fX8_15 rfl rfl ?_
          refine G_iload_n dX8_reach_40 rfl rfl ?_
          refine G_iload_n dX8_reach_41 rfl rfl ?_
          refine G_iast (k := q) (v := t) dX8_reach_42 rfl (vp_in_nI (by omega) (by omega)) (nI_clamp (by omega)) rfl ?_
          refine G_aload_n dX8_reach_43 rfl rfl ?_
          refine G_dup dX8_reach_44 ?_
          refine G_getI (v := (nI n)) dX8_reach_45 fX8_24 rfl rfl (by simp [ms, upd, hM]) ?_
          refine G_iconst (v := (nI 1)) dX8_reach_48 (by decide) ?_
          refine G_iadd (v := (nI (n + 1))) dX8_reach_49 (nI_add _ _) ?_
          refine G_put dX8_reach_50 pX8_24 rfl rfl ?_
          refine G_vret dX8_reach_53 rfl ?_
          exact rfl
theorem c_stepsTo_s {d q : Nat} {M : Mem} (hq : q < 48) : Call l α D cA uX8_stepsTo d [.inr 18, .inl (nI q)] M (fun r M1 => r = .inl (M 20 q) ∧ M1 = M) := by
  refine Call.of kX8_stepsTo.1 (Nat.le_of_ble_eq_true rfl) ?_
  refine G_iload_n dX8_stepsTo_0 rfl rfl ?_
  refine Gn_if_lt (tgt := 19) dX8_stepsTo_1 (by decide) (by omega) (fun h1 => ?_) (fun h1 => ?_)
  · omega
  · refine G_iload_n dX8_stepsTo_4 rfl rfl ?_
    refine G_bipush (v := (nI 48)) dX8_stepsTo_5 (by decide) ?_
    refine Gn_icmp_ge (tgt := 19) dX8_stepsTo_7 (by decide) (by omega) (by omega) (fun h7 => ?_) (fun h7 => ?_)
    · omega
    · refine G_aload_n dX8_stepsTo_10 rfl rfl ?_
      refine G_getR (j := 20) dX8_stepsTo_11 fX8_15 rfl rfl ?_
      refine G_iload_n dX8_stepsTo_14 rfl rfl ?_
      refine G_iald (k := q) (v := (M 20 q)) dX8_stepsTo_15 rfl (vp_in_nI (by omega) (by omega)) (nI_clamp (by omega)) rfl ?_
      refine G_goto (tgt := 21) dX8_stepsTo_16 (by decide) ?_
      refine G_iret dX8_stepsTo_21 rfl rfl ?_
      exact ⟨rfl, rfl⟩
theorem c_wsize_s {d : Nat} {x : Int32} {M : Mem} (hM : M 18 2 = x) : Call l α D cA uX8_size d [.inr 18] M (fun r M1 => r = .inl x ∧ M1 = M) := by
  refine Call.of kX8_size.1 (Nat.le_of_ble_eq_true rfl) ?_
  refine G_aload_n dX8_size_0 rfl rfl ?_
  refine G_getI (v := x) dX8_size_1 fX8_24 rfl rfl hM ?_
  refine G_iret dX8_size_4 rfl rfl ?_
  exact ⟨rfl, rfl⟩
theorem c_place_s {d i : Nat} {M : Mem} (hi : i < 48) : Call l α D cA uX8_place (d + 1) [.inr 18, .inl (nI i)] M (fun r M1 => r = .inl (M 19 i) ∧ M1 = M) := by
  refine Call.of kX8_place.1 (Nat.le_of_ble_eq_true rfl) ?_
  refine G_aload_n dX8_place_0 rfl rfl ?_
  refine G_getR (j := 19) dX8_place_1 fX8_9 rfl rfl ?_
  refine G_iload_n dX8_place_4 rfl rfl ?_
  refine G_callSi (ν := uX9_at) (As := [.inr 19, .inl (nI i)]) dX8_place_5 nX8_45 kX9_at rfl rfl rfl (Nat.le_of_ble_eq_true rfl) (c_at (o := 19) (n := 48) rfl (by decide) hi) ?_
  rintro _ M9 ⟨rfl, e9⟩
  subst M9
  refine G_iret dX8_place_8 rfl rfl ?_
  exact ⟨rfl, rfl⟩
/-- what is kept: all but the wave's own -/
def FR_s (M M1 : Mem) : Prop := ∀ q, q ≠ 18 → q ≠ 19 → q ≠ 20 → M1 q = M q
/-- the post of a spread -/
def SP_s (g : Nat → Nat) (f : Nat) (M M1 : Mem) : Prop := FR_s M M1 ∧ ∃ (n : Nat) (R : Nat → Nat) (T : Nat → Option Nat), WV M1 18 19 20 n R T ∧ WE g f n R T
theorem FR_reach_s {M M1 : Mem} {n q t : Nat} (h : FR_s M M1) : FR_s M (ms (ms (ms M1 19 n (nI q)) 20 q (nI t)) 18 2 (nI (n + 1))) := fun x h1 h2 h3 => by
  rw [ms_q h1, ms_q h3, ms_q h2]
  exact h x h1 h2 h3
theorem WV_reach_s {M1 : Mem} {n q t : Nat} {R : Nat → Nat} {T : Nat → Option Nat} (h : WV M1 18 19 20 n R T) (hn : n < 48) (hq : q < 48) : WV (ms (ms (ms M1 19 n (nI q)) 20 q (nI t)) 18 2 (nI (n + 1))) 18 19 20 (n + 1) (updN R n q) (updO T q t) := by
  refine ⟨by simp [ms, upd], fun j hj => ?_, fun x hx => ?_⟩
  · rw [ms_q (by decide), ms_q (by decide), ms_o]
    unfold upd updN
    by_cases e : j = n
    · rw [if_pos e, if_pos e]
    · rw [if_neg e, if_neg e]
      exact h.2.1 j (by omega)
  · rw [ms_q (by decide), ms_o, ms_q (by decide)]
    unfold upd updO
    by_cases e : x = q
    · rw [if_pos e, if_pos e]
      rfl
    · rw [if_neg e, if_neg e]
      exact h.2.2 x hx
theorem l_spreadI_s {d f i : Nat} {g : Nat → Nat} {M : Mem} {Q : AV → Mem → Prop} (h9 : g9 g) (hf : f < 48) (hc0 : g (12 + f) ≠ 0)
  (out : ∀ (n : Nat) (R D' : Nat → Nat) (T : Nat → Option Nat) (M1 : Mem) (x4 x5 x6 : Option AV), hC g (M1 2) → FR_s M M1 → WV M1 18 19 20 n R T → i < n → BI g f i 4 n R D' T → G l α D cA uX8_spread none (d + 1) Q 107 [some (.inr 18), some (.inr 1), some (.inl (nI f)), some (.inl (nI i)), x4, x5, x6] [] M1) :
  ∀ (k s n : Nat) (R D' : Nat → Nat) (T : Nat → Option Nat) (M1 : Mem) (x : Option AV), 4 - s = k → s ≤ 4 → hC g (M1 2) → FR_s M M1 → WV M1 18 19 20 n R T → i < n → BI g f i s n R D' T → G l α D cA uX8_spread none (d + 1) Q 47 [some (.inr 18), some (.inr 1), some (.inl (nI f)), some (.inl (nI i)), some (.inl (nI ((R i)))), some (.inl (nI s)), x] [] M1 := by
  intro k
  induction k using Nat.strongRecOn with
  | _ k ih => ?_
  intro s n R D' T M1 x hk hs hg hF hw hi hB
  have hb1 := h9 (12 + f) (by omega)
  refine G_iload dX8_spread_47 rfl ?_
  refine G_iconst (v := (nI 4)) dX8_spread_49 (by decide) ?_
  refine Gn_icmp_ge (tgt := 107) dX8_spread_50 (by decide) (by omega) (by omega) (fun h50 => ?_) (fun h50 => ?_)
  · have e : s = 4 := by omega
    subst e
    exact out n R D' T M1 _ _ _ hg hF hw hi hB
  · refine G_iload dX8_spread_53 rfl ?_
    refine G_iload dX8_spread_55 rfl ?_
    refine G_callSi (ν := uX9_beside) (As := [.inl (nI ((R i))), .inl (nI s)]) dX8_spread_57 nX8_32 kX9_beside rfl rfl rfl (Nat.le_of_ble_eq_true rfl) (c_beside ((hB.2.1 i hi).1) (by omega)) ?_
    rintro _ M9 ⟨rfl, e9⟩
    subst M9
    refine G_istore (L2 := [some (.inr 18), some (.inr 1), some (.inl (nI f)), some (.inl (nI i)), some (.inl (nI ((R i)))), some (.inl (nI s)), some (.inl (oI (nbr (R i) s)))]) dX8_spread_60 (Nat.le_of_ble_eq_true rfl) rfl ?_
    refine G_aload_n dX8_spread_62 rfl rfl ?_
    refine G_iload dX8_spread_63 rfl ?_
    refine G_callVi (ν := uX0_colourAt) (As := [.inl (oI (nbr (R i) s))]) dX8_spread_65 nX8_36 kX0_colourAt rfl rfl rfl rfl rfl (Nat.le_of_ble_eq_true rfl) (c_colour (o := 1) (v := 2) rfl rfl hg (fun _ h => nbr_lt ((hB.2.1 i hi).1) h)) ?_
    rintro _ M9 ⟨rfl, e9⟩
    subst M9
    refine G_aload_n dX8_spread_68 rfl rfl ?_
    refine G_iload_n dX8_spread_69 rfl rfl ?_
    refine G_callVi (ν := uX0_colourAt) (As := [.inl (nI f)]) dX8_spread_70 nX8_36 kX0_colourAt rfl rfl rfl rfl rfl (Nat.le_of_ble_eq_true rfl) (c_colourAt (o := 1) (v := 2) rfl rfl hg hf) ?_
    rintro _ M9 ⟨rfl, e9⟩
    subst M9
    have hb2 := colr_nbr (s := s) h9 ((hB.2.1 i hi).1)
    refine Gn_icmp_ne (tgt := 101) dX8_spread_73 (by decide) (by omega) (by omega) (fun h73 => ?_) (fun h73 => ?_)
    · refine G_iinc (v := (nI (s + 1))) (L2 := [some (.inr 18), some (.inr 1), some (.inl (nI f)), some (.inl (nI i)), some (.inl (nI ((R i)))), some (.inl (nI (s + 1))), some (.inl (oI (nbr (R i) s)))]) dX8_spread_101 rfl (nI_1 _) rfl ?_
      refine G_goto (tgt := 47) dX8_spread_104 (by decide) ?_
      exact ih (4 - (s + 1)) (by omega) (s + 1) n R D' T M1 _ rfl (by omega) hg hF hw hi (BI_skip hB hi (fun q e c => absurd (by rw [e]; exact c) h73))
    · obtain ⟨q, hq⟩ : ∃ q, nbr (R i) s = some q := by
        cases hz : nbr (R i) s with
        | none => rw [hz] at h73; exact absurd h73.symm hc0
        | some q => exact ⟨q, rfl⟩
      have hq48 := nbr_lt ((hB.2.1 i hi).1) hq
      have hcq : g (12 + q) = g (12 + f) := by rw [hq] at h73; exact h73
      rw [hq, show oI (some q) = nI q from rfl]
      refine G_aload_n dX8_spread_76 rfl rfl ?_
      refine G_iload dX8_spread_77 rfl ?_
      refine G_callVi (ν := uX8_stepsTo) (As := [.inl (nI q)]) dX8_spread_79 nX8_42 kX8_stepsTo rfl rfl rfl rfl rfl (Nat.le_of_ble_eq_true rfl) (c_stepsTo_s hq48) ?_
      rintro _ M9 ⟨rfl, e9⟩
      subst M9
      rw [hw.2.2 q hq48]
      refine G_bipush (v := ((-9))) dX8_spread_82 (by decide) ?_
      refine G_icmp_ne (tgt := 101) dX8_spread_84 (by decide) (fun h84 => ?_) (fun h84 => ?_)
      · refine G_iinc (v := (nI (s + 1))) (L2 := [some (.inr 18), some (.inr 1), some (.inl (nI f)), some (.inl (nI i)), some (.inl (nI ((R i)))), some (.inl (nI (s + 1))), some (.inl (nI q))]) dX8_spread_101 rfl (nI_1 _) rfl ?_
        refine G_goto (tgt := 47) dX8_spread_104 (by decide) ?_
        exact ih (4 - (s + 1)) (by omega) (s + 1) n R D' T M1 _ rfl (by omega) hg hF hw hi (BI_skip hB hi (fun q2 e c => by
          rw [hq] at e
          cases e
          cases hz : T q with
          | none => exact absurd (by rw [hz]; rfl) h84
          | some t => exact ⟨t, rfl⟩))
      · refine G_aload_n dX8_spread_87 rfl rfl ?_
        refine G_iload dX8_spread_88 rfl ?_
        refine G_aload_n dX8_spread_90 rfl rfl ?_
        refine G_iload dX8_spread_91 rfl ?_
        refine G_callVi (ν := uX8_stepsTo) (As := [.inl (nI ((R i)))]) dX8_spread_93 nX8_42 kX8_stepsTo rfl rfl rfl rfl rfl (Nat.le_of_ble_eq_true rfl) (c_stepsTo_s ((hB.2.1 i hi).1)) ?_
        rintro _ M9 ⟨rfl, e9⟩
        subst M9
        rw [hw.2.2 _ ((hB.2.1 i hi).1), (hB.2.1 i hi).2.2, show oI (some (D' i)) = nI (D' i) from rfl]
        refine G_iconst (v := (nI 1)) dX8_spread_96 (by decide) ?_
        refine G_iadd (v := (nI ((D' i) + 1))) dX8_spread_97 (nI_add _ _) ?_
        have hn : T q = none := (oI_none (fun t ht => by have := BI_lt hB q t ht; omega)).mp h84
        have hn48 := BI_room hB hq48 hn
        refine G_callVv (ν := uX8_reach) (As := [.inl (nI q), .inl (nI ((D' i) + 1))]) dX8_spread_98 nX8_28 kX8_reach rfl rfl rfl rfl rfl (Nat.le_of_ble_eq_true rfl) (c_reach_s hq48 hn48 hw.1) ?_
        rintro _ M9 e9
        subst M9
        refine G_iinc (v := (nI (s + 1))) (L2 := [some (.inr 18), some (.inr 1), some (.inl (nI f)), some (.inl (nI i)), some (.inl (nI ((R i)))), some (.inl (nI (s + 1))), some (.inl (nI q))]) dX8_spread_101 rfl (nI_1 _) rfl ?_
        refine G_goto (tgt := 47) dX8_spread_104 (by decide) ?_
        have eR : updN R n q i = R i := updN_n (by omega)
        rw [← eR]
        exact ih (4 - (s + 1)) (by omega) (s + 1) (n + 1) (updN R n q) _ _ _ _ rfl (by omega) (by simpa [ms] using hg) (FR_reach_s hF) (WV_reach_s hw hn48 hq48) (by omega) (BI_reach hB hi (by omega) hq hcq hn)
theorem l_spreadO_s {d f : Nat} {g : Nat → Nat} {M : Mem} (h9 : g9 g) (hf : f < 48) (hc0 : g (12 + f) ≠ 0) :
  ∀ (k i n : Nat) (R D' : Nat → Nat) (T : Nat → Option Nat) (M1 : Mem) (x4 x5 x6 : Option AV), 48 - i = k → hC g (M1 2) → FR_s M M1 → WV M1 18 19 20 n R T → BI g f i 0 n R D' T → G l α D cA uX8_spread none (d + 1) (fun _ M1 => SP_s g f M M1) 22 [some (.inr 18), some (.inr 1), some (.inl (nI f)), some (.inl (nI i)), x4, x5, x6] [] M1 := by
  intro k
  induction k using Nat.strongRecOn with
  | _ k ih => ?_
  intro i n R D' T M1 x4 x5 x6 hk hg hF hw hB
  have hle := hB.1.1
  have hin := hB.1.2.1
  refine G_iload_n dX8_spread_22 rfl rfl ?_
  refine G_aload_n dX8_spread_23 rfl rfl ?_
  refine G_getI (v := (nI n)) dX8_spread_24 fX8_24 rfl rfl hw.1 ?_
  refine Gn_icmp_ge (tgt := 113) dX8_spread_27 (by decide) (by omega) (by omega) (fun h27 => ?_) (fun h27 => ?_)
  · refine G_vret dX8_spread_113 rfl ?_
    have e : i = n := by omega
    subst e
    exact ⟨hF, i, R, T, hw, BI_end hB⟩
  · refine G_iload_n dX8_spread_30 rfl rfl ?_
    refine G_bipush (v := (nI 48)) dX8_spread_31 (by decide) ?_
    refine Gn_icmp_ge (tgt := 113) dX8_spread_33 (by decide) (by omega) (by omega) (fun h33 => ?_) (fun h33 => ?_)
    · omega
    · refine G_aload_n dX8_spread_36 rfl rfl ?_
      refine G_getR (j := 19) dX8_spread_37 fX8_9 rfl rfl ?_
      refine G_iload_n dX8_spread_40 rfl rfl ?_
      refine G_iald (k := i) (v := (nI ((R i)))) dX8_spread_41 rfl (vp_in_nI (by omega) (by omega)) (nI_clamp (by omega)) (hw.2.1 i (by omega)) ?_
      refine G_istore (L2 := [some (.inr 18), some (.inr 1), some (.inl (nI f)), some (.inl (nI i)), some (.inl (nI ((R i)))), x5, x6]) dX8_spread_42 (Nat.le_of_ble_eq_true rfl) rfl ?_
      refine G_iconst (v := (nI 0)) dX8_spread_44 (by decide) ?_
      refine G_istore (L2 := [some (.inr 18), some (.inr 1), some (.inl (nI f)), some (.inl (nI i)), some (.inl (nI ((R i)))), some (.inl (nI 0)), x6]) dX8_spread_45 (Nat.le_of_ble_eq_true rfl) rfl ?_
      refine l_spreadI_s h9 hf hc0 ?_ 4 0 n R D' T M1 _ rfl (by omega) hg hF hw (by omega) hB
      intro n R D' T M1 x4 x5 x6 hg hF hw hi hB
      refine G_iinc (v := (nI (i + 1))) (L2 := [some (.inr 18), some (.inr 1), some (.inl (nI f)), some (.inl (nI (i + 1))), x4, x5, x6]) dX8_spread_107 rfl (nI_1 _) rfl ?_
      refine G_goto (tgt := 22) dX8_spread_110 (by decide) ?_
      exact ih (48 - (i + 1)) (by have := hB.1.1; omega) (i + 1) n R D' T M1 x4 x5 x6 rfl hg hF hw (BI_next hB hi)
theorem c_spread_s {d f : Nat} {g : Nat → Nat} {M : Mem} (hg : hC g (M 2)) (h9 : g9 g) (hf : f < 48) (hc0 : g (12 + f) ≠ 0) : Call l α D cA uX8_spread (d + 1) [.inr 18, .inr 1, .inl (nI f)] M (fun _ M1 => SP_s g f M M1) := by
  refine Call.of kX8_spread.1 (Nat.le_of_ble_eq_true rfl) ?_
  refine G_aload_n dX8_spread_0 rfl rfl ?_
  refine G_getR (j := 20) dX8_spread_1 fX8_15 rfl rfl ?_
  refine G_bipush (v := ((-9))) dX8_spread_4 (by decide) ?_
  refine G_callSv (ν := uJ7_fill_53178) (As := [.inr 20, .inl (-9)]) dX8_spread_6 nX8_18 kJ7_fill_53178 rfl rfl rfl (Nat.le_of_ble_eq_true rfl) (c_fill (o := 20) (n := 48) rfl (by decide)) ?_
  rintro _ M9 e9
  subst M9
  refine G_aload_n dX8_spread_9 rfl rfl ?_
  refine G_iconst (v := (nI 0)) dX8_spread_10 (by decide) ?_
  refine G_put dX8_spread_11 pX8_24 rfl rfl ?_
  refine G_aload_n dX8_spread_14 rfl rfl ?_
  refine G_iload_n dX8_spread_15 rfl rfl ?_
  refine G_iconst (v := (nI 0)) dX8_spread_16 (by decide) ?_
  refine G_callVv (ν := uX8_reach) (As := [.inl (nI f), .inl (nI 0)]) dX8_spread_17 nX8_28 kX8_reach rfl rfl rfl rfl rfl (Nat.le_of_ble_eq_true rfl) (c_reach_s (n := 0) hf (by decide) (by simp [ms, upd])) ?_
  rintro _ M9 e9
  subst M9
  refine G_iconst (v := (nI 0)) dX8_spread_20 (by decide) ?_
  refine G_istore_n (L2 := [some (.inr 18), some (.inr 1), some (.inl (nI f)), some (.inl (nI 0)), none, none, none]) dX8_spread_21 rfl (Nat.le_of_ble_eq_true rfl) rfl ?_
  refine l_spreadO_s h9 hf hc0 48 0 1 (fun _ => f) (fun _ => 0) _ _ none none none rfl ?_ ?_ ?_ (BI_start hf hc0)
  · simpa [ms, mo] using hg
  · intro q h1 h2 h3
    simp [ms, mo, h1, h2, h3]
  · refine ⟨by simp [ms, upd], fun j hj => ?_, fun q hq => ?_⟩
    · have e : j = 0 := by omega
      subst e
      simp [ms, upd]
    · simp only [ms, mo, upd, fil]
      by_cases e : q = f
      · simp [e, oI, upd]
      · simp [e, oI, hq, upd, fil]
end P13
