/-! The reference's changing calls -/
section P35
variable {l : Launch} {α : Nat → Nat} {D : va_G} {cA : Nat → ClassId}
theorem PY_r {s' : AS} {M M1 : Mem} {a : Int32} (h : YR s' M1) (hF : ∀ q, q < 50 → M1 q = M q) : PY M (a, s') (.inl a) M1 := ⟨rfl, h, hF⟩
theorem FY_50 {M M1 : Mem} (h : FY M M1) : ∀ q, q < 50 → M1 q = M q := fun q hq => h.1 q (by omega) (by omega)
theorem hS_cong {g : Nat → Nat} {f f2 : Nat → Int32} (hk : gok g) (h : hS g f) (he : ∀ j, j < 60 → f2 j = f j) : hS g f2 := by
  have hN := cel_48 hk
  exact ⟨fun i hi => by rw [he i (by omega)]; exact h.1 i hi, fun c hc => by rw [he (12 + c) (by omega)]; exact h.2 c hc⟩
theorem hS_w {g : Nat → Nat} {f : Nat → Int32} (h : hS g f) {ix v : Nat} (h1 : 2 ≤ ix) (h2 : ix < 12) : hS (updN g ix v) (upd f ix (nI v)) := by
  have e0 : updN g ix v 0 = g 0 := updN_n (by omega)
  have e1 : updN g ix v 1 = g 1 := updN_n (by omega)
  refine ⟨fun i hi => ?_, fun c hc => ?_⟩
  · unfold upd updN
    split
    · rfl
    · exact h.1 i hi
  · rw [e0, e1] at hc
    rw [upd_n (by omega), e0, updN_n (by omega)]
    exact h.2 c hc
def shf (f : Nat → Int32) (k : Nat) : Nat → Int32 := fun j => if j < k then f (j + 60) else f j
theorem shf_0 {f : Nat → Int32} : shf f 0 = f := by
  funext j
  exact if_neg (Nat.not_lt_zero _)
theorem shf_s {f : Nat → Int32} {k : Nat} : upd (shf f k) k (f (k + 60)) = shf f (k + 1) := by
  funext j
  unfold upd shf
  by_cases e : j = k
  · subst e; rw [if_pos rfl, if_pos (by omega)]
  · rw [if_neg e]
    by_cases z : j < k
    · rw [if_pos z, if_pos (by omega)]
    · rw [if_neg z, if_neg (by omega)]
theorem put_at {f g : Nat → Int32} {a b j : Nat} (hj : j < 60) (e : b = a) : fb_put f g a 60 (b + j) = g j := by
  subst e
  rw [fb_put_in (by omega) (by omega), Nat.add_sub_cancel_left]
/-- the past alone and the number of undos may have changed -/
def FNt (M M1 : Mem) : Prop := (∀ q, q ≠ 50 → q ≠ 53 → M1 q = M q) ∧ ∀ j, j ≠ 4 → M1 50 j = M 50 j
theorem y_type {d : Nat} {s : AS} {M : Mem} {c0 : Int32} (hY : YR s M) : Call l α D cA uX10_type (d + 1) [.inr 50, .inl c0] M (PY M (nType s c0)) := by
  refine Call.of kX10_type.1 (Nat.le_of_ble_eq_true rfl) ?_
  refine G_aload_n dX10_type_0 rfl rfl ?_
  refine G_iconst (v := (nI 0)) dX10_type_1 (by decide) ?_
  refine G_put dX10_type_2 pX10_81 rfl rfl ?_
  have hF0 : FY M (ms M 50 0 (nI 0)) := FY_0
  generalize ms M 50 0 (nI 0) = M0 at hF0 ⊢
  have hY0 := YR_Y hY hF0
  obtain ⟨hok, hs, hPA, hKE, hFA, hTB⟩ := id hY0
  have hk := hok.1
  have hq0 := FY_50 hF0
  refine G_iload_n dX10_type_5 rfl rfl ?_
  refine G_iconst (v := (nI 0)) dX10_type_6 (by decide) ?_
  refine G_sipush (v := (nI 255)) dX10_type_7 (by decide) ?_
  refine G_callSi (ν := uX10_in) (As := [.inl c0, .inl (nI 0), .inl (nI 255)]) dX10_type_10 nX10_85 kX10_in rfl rfl rfl (Nat.le_of_ble_eq_true rfl) (y_inI (lo := 0) (hi := 255)) ?_
  rintro _ M8 ⟨rfl, e9⟩
  subst M8
  refine Gb_if_ne (tgt := 18) dX10_type_13 (by decide) (fun h13 => ?_) (fun h13 => ?_)
  · obtain ⟨c, -, hc, rfl⟩ := inI_nI (dec_iff.mp h13) (by decide) (by decide)
    have hn := hTB.2.1
    refine G_aload_n dX10_type_18 rfl rfl ?_
    refine G_getI (v := (nI (s.1.1))) dX10_type_19 fX10_89 rfl rfl hTB.1 ?_
    refine G_bipush (v := (nI 120)) dX10_type_22 (by decide) ?_
    refine Gn_icmp_ne (tgt := 30) dX10_type_24 (by decide) (by omega) (by omega) (fun h24 => ?_) (fun h24 => ?_)
    · refine G_aload_n dX10_type_30 rfl rfl ?_
      refine G_getR (j := 57) dX10_type_31 fX10_29 rfl rfl ?_
      refine G_aload_n dX10_type_34 rfl rfl ?_
      refine G_getI (v := (nI (s.1.1))) dX10_type_35 fX10_89 rfl rfl hTB.1 ?_
      refine G_iload_n dX10_type_38 rfl rfl ?_
      refine G_i2b (v := (b8 c)) dX10_type_39 rfl ?_
      refine G_bast (k := s.1.1) (v := (b8 c)) dX10_type_40 rfl (vp_in_nI (by omega) (by omega)) (nI_clamp (by omega)) (fb_byte_twice _) ?_
      refine G_aload_n dX10_type_41 rfl rfl ?_
      refine G_dup dX10_type_42 ?_
      refine G_getI (v := (nI (s.1.1))) dX10_type_43 fX10_89 rfl rfl (by rw [ms_q (by decide)]; exact hTB.1) ?_
      refine G_iconst (v := (nI 1)) dX10_type_46 (by decide) ?_
      refine G_iadd (v := (nI ((s.1.1) + 1))) dX10_type_47 (nI_add _ _) ?_
      refine G_put dX10_type_48 pX10_89 rfl rfl ?_
      refine G_aload_n dX10_type_51 rfl rfl ?_
      refine G_getI (v := (nI (s.1.1 + 1))) dX10_type_52 fX10_89 rfl rfl (by rw [ms_o]; exact upd_k) ?_
      refine G_iret dX10_type_55 rfl rfl ?_
      rw [nType, cI_t (dec_iff.mp h13), if_neg (by omega), nN (by omega)]
      refine PY_r ⟨hok, ?_, ?_, ?_, ?_, ?_, by show s.1.1 + 1 ≤ 120; omega, fun i hi => ?_⟩ (fun q hq => by rw [ms_q (by omega), ms_q (by omega)]; exact hq0 q hq)
      · rw [ms_q (by decide), ms_q (by decide)]; exact hs
      · unfold PAm at *; rw [ms_o, upd_n (by decide), ms_q (by decide), ms_q (by decide), ms_q (by decide)]; exact hPA
      · unfold KEm at *; rw [ms_q (by decide), ms_q (by decide), ms_q (by decide), ms_q (by decide)]; exact hKE
      · unfold FAm at *; rw [ms_o, upd_n (by decide), ms_q (by decide), ms_q (by decide), ms_q (by decide)]; exact hFA
      · rw [ms_o]; exact upd_k
      · have hi : i < s.1.1 + 1 := hi
        show (ms (ms M0 57 s.1.1 _) 50 10 _) 57 i = b8 (updN s.1.2 s.1.1 c i) ∧ updN s.1.2 s.1.1 c i ≤ 255
        rw [ms_q (by decide), ms_o]
        unfold upd updN
        by_cases e : i = s.1.1
        · rw [if_pos e, if_pos e]; exact ⟨rfl, hc⟩
        · rw [if_neg e, if_neg e]; exact hTB.2.2 i (by omega)
    · refine G_bipush (v := ((-3))) dX10_type_27 (by decide) ?_
      refine G_iret dX10_type_29 rfl rfl ?_
      rw [nType, cI_t (dec_iff.mp h13), if_pos (by omega)]
      exact PY_r hY0 hq0
  · refine G_iconst (v := ((-1))) dX10_type_16 (by decide) ?_
    refine G_iret dX10_type_17 rfl rfl ?_
    rw [nType, cI_f (dec_niff.mp h13)]
    exact PY_r hY0 hq0
theorem y_clear {d : Nat} {s : AS} {M : Mem} (hY : YR s M) : Call l α D cA uX10_clear (d + 1) [.inr 50] M (PY M (nClear s)) := by
  refine Call.of kX10_clear.1 (Nat.le_of_ble_eq_true rfl) ?_
  refine G_aload_n dX10_clear_0 rfl rfl ?_
  refine G_iconst (v := (nI 0)) dX10_clear_1 (by decide) ?_
  refine G_put dX10_clear_2 pX10_81 rfl rfl ?_
  have hF0 : FY M (ms M 50 0 (nI 0)) := FY_0
  generalize ms M 50 0 (nI 0) = M0 at hF0 ⊢
  have hY0 := YR_Y hY hF0
  obtain ⟨hok, hs, hPA, hKE, hFA, hTB⟩ := id hY0
  have hk := hok.1
  have hq0 := FY_50 hF0
  refine G_aload_n dX10_clear_5 rfl rfl ?_
  refine G_getI (v := (nI (s.1.1))) dX10_clear_6 fX10_89 rfl rfl hTB.1 ?_
  refine G_istore_n (L2 := [some (.inr 50), some (.inl (nI (s.1.1)))]) dX10_clear_9 rfl (Nat.le_of_ble_eq_true rfl) rfl ?_
  refine G_aload_n dX10_clear_10 rfl rfl ?_
  refine G_iconst (v := (nI 0)) dX10_clear_11 (by decide) ?_
  refine G_put dX10_clear_12 pX10_89 rfl rfl ?_
  refine G_iload_n dX10_clear_15 rfl rfl ?_
  refine G_iret dX10_clear_16 rfl rfl ?_
  refine PY_r ⟨hok, ?_, ?_, ?_, ?_, ?_, Nat.zero_le _, fun i hi => absurd hi (Nat.not_lt_zero _)⟩ (fun q hq => by rw [ms_q (by omega)]; exact hq0 q hq)
  · rw [ms_q (by decide)]; exact hs
  · unfold PAm at *; rw [ms_o, upd_n (by decide), ms_q (by decide)]; exact hPA
  · unfold KEm at *; rw [ms_q (by decide), ms_q (by decide)]; exact hKE
  · unfold FAm at *; rw [ms_o, upd_n (by decide), ms_q (by decide)]; exact hFA
  · rw [ms_o]; exact upd_k
theorem y_forget {d : Nat} {s : AS} {M : Mem} (hY : YR s M) : Call l α D cA uX10_forget (d + 1) [.inr 50] M (PY M (nForget s)) := by
  refine Call.of kX10_forget.1 (Nat.le_of_ble_eq_true rfl) ?_
  refine G_aload_n dX10_forget_0 rfl rfl ?_
  refine G_iconst (v := (nI 0)) dX10_forget_1 (by decide) ?_
  refine G_put dX10_forget_2 pX10_81 rfl rfl ?_
  have hF0 : FY M (ms M 50 0 (nI 0)) := FY_0
  generalize ms M 50 0 (nI 0) = M0 at hF0 ⊢
  have hY0 := YR_Y hY hF0
  obtain ⟨hok, hs, hPA, hKE, hFA, hTB⟩ := id hY0
  have hk := hok.1
  have hq0 := FY_50 hF0
  refine G_aload_n dX10_forget_5 rfl rfl ?_
  refine G_getI (v := (nI (s.2.2.2.2.1))) dX10_forget_6 fX10_262 rfl rfl hFA.1 ?_
  refine G_istore_n (L2 := [some (.inr 50), some (.inl (nI (s.2.2.2.2.1)))]) dX10_forget_9 rfl (Nat.le_of_ble_eq_true rfl) rfl ?_
  refine G_aload_n dX10_forget_10 rfl rfl ?_
  refine G_iconst (v := (nI 0)) dX10_forget_11 (by decide) ?_
  refine G_put dX10_forget_12 pX10_262 rfl rfl ?_
  refine G_iload_n dX10_forget_15 rfl rfl ?_
  refine G_iret dX10_forget_16 rfl rfl ?_
  refine PY_r ⟨hok, ?_, ?_, ?_, ⟨?_, Nat.zero_le _, fun i hi => absurd hi (Nat.not_lt_zero _)⟩, ?_⟩ (fun q hq => by rw [ms_q (by omega)]; exact hq0 q hq)
  · rw [ms_q (by decide)]; exact hs
  · unfold PAm at *; rw [ms_o, upd_n (by decide), ms_q (by decide)]; exact hPA
  · unfold KEm at *; rw [ms_q (by decide), ms_q (by decide)]; exact hKE
  · rw [ms_o]; exact upd_k
  · unfold TBm at *; rw [ms_o, upd_n (by decide), ms_q (by decide)]; exact hTB
theorem ly_not2 {d n u : Nat} {g : Nat → Nat} {Gh : Nat → Nat → Nat} {f : Nat → Int32} {M : Mem} (hk : gok g) (hu : u ≤ 5) (fin : ∀ M1, FNt M M1 → M1 50 4 = nI (u + 1) → M1 53 = fb_put f (M 51) (60 * u) 60 → PAm (min (n + 1) 6) (hCons g Gh) M1) : ∀ (k k0 : Nat) (M1 : Mem), 60 - k0 = k → k0 ≤ 60 → FNt M M1 → M1 50 4 = nI u → M1 53 = fb_put f (M 51) (60 * u) k0 → G l α D cA uX10_notes none d (fun _ M1 => FNt M M1 ∧ PAm (min (n + 1) 6) (hCons g Gh) M1) 51 [some (.inr 50), some (.inl (nI k0))] [] M1 := by
  intro k
  induction k using Nat.strongRecOn with
  | _ k ih => ?_
  intro k0 M1 hkk hk0 hF h4 h53
  refine G_iload_n dX10_notes_51 rfl rfl ?_
  refine G_bipush (v := (nI 60)) dX10_notes_52 (by decide) ?_
  refine Gn_icmp_ge (tgt := 83) dX10_notes_54 (by decide) (by omega) (by omega) (fun h54 => ?_) (fun h54 => ?_)
  · refine G_aload_n dX10_notes_83 rfl rfl ?_
    refine G_dup dX10_notes_84 ?_
    refine G_getI (v := (nI u)) dX10_notes_85 fX10_144 rfl rfl h4 ?_
    refine G_iconst (v := (nI 1)) dX10_notes_88 (by decide) ?_
    refine G_iadd (v := (nI (u + 1))) dX10_notes_89 (nI_add _ _) ?_
    refine G_put dX10_notes_90 pX10_144 rfl rfl ?_
    refine G_vret dX10_notes_93 rfl ?_
    have e : k0 = 60 := by omega
    subst e
    have hF2 : FNt M (ms M1 50 4 (nI (u + 1))) := ⟨fun q a b => by rw [ms_q a]; exact hF.1 q a b, fun j a => by rw [ms_o, upd_n a]; exact hF.2 j a⟩
    exact ⟨hF2, fin _ hF2 (by rw [ms_o]; exact upd_k) (by rw [ms_q (by decide)]; exact h53)⟩
  · refine G_aload_n dX10_notes_57 rfl rfl ?_
    refine G_getR (j := 53) dX10_notes_58 fX10_16 rfl rfl ?_
    refine G_bipush (v := (nI 60)) dX10_notes_61 (by decide) ?_
    refine G_aload_n dX10_notes_63 rfl rfl ?_
    refine G_getI (v := (nI u)) dX10_notes_64 fX10_144 rfl rfl h4 ?_
    refine G_imul (v := (nI (60 * u))) dX10_notes_67 (pk_mul _ _) ?_
    refine G_iload_n dX10_notes_68 rfl rfl ?_
    refine G_iadd (v := (nI ((60 * u) + k0))) dX10_notes_69 (nI_add _ _) ?_
    refine G_aload_n dX10_notes_70 rfl rfl ?_
    refine G_getR (j := 51) dX10_notes_71 fX10_7 rfl rfl ?_
    refine G_iload_n dX10_notes_74 rfl rfl ?_
    refine G_iald (k := k0) (v := (M 51 k0)) dX10_notes_75 rfl (vp_in_nI (by omega) (by omega)) (nI_clamp (by omega)) (by rw [hF.1 51 (by decide) (by decide)]) ?_
    refine G_iast (k := (60 * u) + k0) (v := (M 51 k0)) dX10_notes_76 rfl (vp_in_nI (by omega) (by omega)) (nI_clamp (by omega)) rfl ?_
    refine G_iinc (v := (nI (k0 + 1))) (L2 := [some (.inr 50), some (.inl (nI (k0 + 1)))]) dX10_notes_77 rfl (nI_1 _) rfl ?_
    refine G_goto (tgt := 51) dX10_notes_80 (by decide) ?_
    refine ih (60 - (k0 + 1)) (by omega) (k0 + 1) _ rfl (by omega) ⟨fun q a b => by rw [ms_q b]; exact hF.1 q a b, fun j a => by rw [ms_q (by decide)]; exact hF.2 j a⟩ (by rw [ms_q (by decide)]; exact h4) ?_
    rw [ms_o, h53]
    exact fb_put_succ _ _ _ _
theorem ly_not1 {d n : Nat} {g : Nat → Nat} {Gh : Nat → Nat → Nat} {M : Mem} (hs : hS g (M 51)) (hk : gok g) (hG : ∀ i, i < n → gok (Gh i)) (hP : PAm n Gh M) (h6 : n = 6) : ∀ (k k0 : Nat), 300 - k0 = k → k0 ≤ 300 → G l α D cA uX10_notes none d (fun _ M1 => FNt M M1 ∧ PAm (min (n + 1) 6) (hCons g Gh) M1) 11 [some (.inr 50), some (.inl (nI k0))] [] (mo M 53 (shf (M 53) k0)) := by
  intro k
  induction k using Nat.strongRecOn with
  | _ k ih => ?_
  intro k0 hkk hk0
  refine G_iload_n dX10_notes_11 rfl rfl ?_
  refine G_sipush (v := (nI 300)) dX10_notes_12 (by decide) ?_
  refine Gn_icmp_ge (tgt := 39) dX10_notes_15 (by decide) (by omega) (by omega) (fun h15 => ?_) (fun h15 => ?_)
  · refine G_aload_n dX10_notes_39 rfl rfl ?_
    refine G_dup dX10_notes_40 ?_
    refine G_getI (v := (nI 6)) dX10_notes_41 fX10_144 rfl rfl (by rw [mo_q (by decide), hP.1, h6]) ?_
    refine G_iconst (v := (nI 1)) dX10_notes_44 (by decide) ?_
    refine G_isub (v := (nI 5)) dX10_notes_45 (by decide) ?_
    refine G_put dX10_notes_46 pX10_144 rfl rfl ?_
    refine G_iconst (v := (nI 0)) dX10_notes_49 (by decide) ?_
    refine G_istore_n (L2 := [some (.inr 50), some (.inl (nI 0))]) dX10_notes_50 rfl (Nat.le_of_ble_eq_true rfl) rfl ?_
    have e : k0 = 300 := by omega
    subst e
    subst h6
    refine ly_not2 (u := 5) (f := shf (M 53) 300) hk (by decide) (fun M1 hF h4 h53 => ?_) _ 0 _ rfl (Nat.zero_le _) ⟨fun q a b => by rw [ms_q a, mo_q b], fun j a => by rw [ms_o, upd_n a, mo_q (by decide)]⟩ (by rw [ms_o]; exact upd_k) (by rw [ms_q (by decide), mo_o, fb_put_0])
    refine ⟨h4, by decide, fun i hi => ?_⟩
    have hi : i < 6 := hi
    show hS (hCons g Gh i) (fun k => M1 53 (60 * (6 - 1 - i) + k))
    rw [h53]
    cases i with
    | zero => exact hS_cong hk hs (fun j hj => put_at hj (by decide))
    | succ i =>
      refine hS_cong (hG i (by omega)) (hP.2.2 i (by omega)) (fun j hj => ?_)
      try dsimp only
      rw [fb_put_out (by omega), shf, if_pos (by omega)]
      exact congrArg (M 53) (by omega)
  · refine G_aload_n dX10_notes_18 rfl rfl ?_
    refine G_getR (j := 53) dX10_notes_19 fX10_16 rfl rfl ?_
    refine G_iload_n dX10_notes_22 rfl rfl ?_
    refine G_aload_n dX10_notes_23 rfl rfl ?_
    refine G_getR (j := 53) dX10_notes_24 fX10_16 rfl rfl ?_
    refine G_iload_n dX10_notes_27 rfl rfl ?_
    refine G_bipush (v := (nI 60)) dX10_notes_28 (by decide) ?_
    refine G_iadd (v := (nI (k0 + 60))) dX10_notes_30 (nI_add _ _) ?_
    refine G_iald (k := k0 + 60) (v := (M 53 (k0 + 60))) dX10_notes_31 rfl (vp_in_nI (by omega) (by omega)) (nI_clamp (by omega)) (by rw [mo_o, shf, if_neg (by omega)]) ?_
    refine G_iast (k := k0) (v := (M 53 (k0 + 60))) dX10_notes_32 rfl (vp_in_nI (by omega) (by omega)) (nI_clamp (by omega)) rfl ?_
    refine G_iinc (v := (nI (k0 + 1))) (L2 := [some (.inr 50), some (.inl (nI (k0 + 1)))]) dX10_notes_33 rfl (nI_1 _) rfl ?_
    refine G_goto (tgt := 11) dX10_notes_36 (by decide) ?_
    rw [ms_idem, shf_s]
    exact ih (300 - (k0 + 1)) (by omega) (k0 + 1) rfl (by omega)
theorem y_notes {d n : Nat} {g : Nat → Nat} {Gh : Nat → Nat → Nat} {M : Mem} (hs : hS g (M 51)) (hk : gok g) (hG : ∀ i, i < n → gok (Gh i)) (hP : PAm n Gh M) : Call l α D cA uX10_notes d [.inr 50] M (fun _ M1 => FNt M M1 ∧ PAm (min (n + 1) 6) (hCons g Gh) M1) := by
  refine Call.of kX10_notes.1 (Nat.le_of_ble_eq_true rfl) ?_
  have hn6 := hP.2.1
  refine G_aload_n dX10_notes_0 rfl rfl ?_
  refine G_getI (v := (nI n)) dX10_notes_1 fX10_144 rfl rfl hP.1 ?_
  refine G_bipush (v := (nI 6)) dX10_notes_4 (by decide) ?_
  refine Gn_icmp_ne (tgt := 49) dX10_notes_6 (by decide) (by omega) (by omega) (fun h6 => ?_) (fun h6 => ?_)
  · refine G_iconst (v := (nI 0)) dX10_notes_49 (by decide) ?_
    refine G_istore_n (L2 := [some (.inr 50), some (.inl (nI 0))]) dX10_notes_50 rfl (Nat.le_of_ble_eq_true rfl) rfl ?_
    refine ly_not2 (u := n) (f := M 53) hk (by omega) (fun M1 hF h4 h53 => ?_) _ 0 M rfl (Nat.zero_le _) ⟨fun _ _ _ => rfl, fun _ _ => rfl⟩ hP.1 (by rw [fb_put_0])
    have e : min (n + 1) 6 = n + 1 := by omega
    rw [e]
    refine ⟨h4, by omega, fun i hi => ?_⟩
    show hS (hCons g Gh i) (fun k => M1 53 (60 * (n + 1 - 1 - i) + k))
    rw [h53]
    cases i with
    | zero => exact hS_cong hk hs (fun j hj => by rw [fb_put_in (by omega) (by omega)]; exact congrArg (M 51) (by omega))
    | succ i =>
      refine hS_cong (hG i (by omega)) (hP.2.2 i (by omega)) (fun j hj => ?_)
      try dsimp only
      rw [fb_put_out (by omega)]
      exact congrArg (M 53) (by omega)
  · refine G_iconst (v := (nI 0)) dX10_notes_9 (by decide) ?_
    refine G_istore_n (L2 := [some (.inr 50), some (.inl (nI 0))]) dX10_notes_10 rfl (Nat.le_of_ble_eq_true rfl) rfl ?_
    have h := ly_not1 (l := l) (α := α) (D := D) (cA := cA) (d := d) hs hk hG hP h6 300 0 rfl (Nat.zero_le _)
    rw [shf_0, mo_self] at h
    exact h
/-- a new cloth, the old one in the past -/
theorem YR_push {s : AS} {M Ma M1 : Mem} {g' : Nat → Nat} (hY : YR s M) (hk : gok g') (hFa : FNt M Ma) (hPa : PAm (min (s.2.2.1.1 + 1) 6) (hCons s.2.1 s.2.2.1.2) Ma) (hF : ∀ q, q ≠ 51 → M1 q = Ma q) (hs : hS g' (M1 51)) : YR (push s g') M1 := by
  obtain ⟨h0, h1, h2, h3, h4, h5⟩ := hY
  refine ⟨⟨hk, fun i hi => ?_, h0.2.2⟩, hs, ?_, ?_, ?_, ?_⟩
  · show gok (hCons s.2.1 s.2.2.1.2 i)
    have hi : i < min (s.2.2.1.1 + 1) 6 := hi
    cases i with
    | zero => exact h0.1
    | succ i => exact h0.2.1 i (by omega)
  · unfold PAm at *
    rw [hF 50 (by decide), hF 53 (by decide)]
    exact hPa
  · unfold KEm at *
    rw [hF 55 (by decide), hF 54 (by decide), hFa.1 55 (by decide) (by decide), hFa.1 54 (by decide) (by decide)]
    exact h3
  · unfold FAm at *
    rw [hF 50 (by decide), hF 56 (by decide), hFa.2 8 (by decide), hFa.1 56 (by decide) (by decide)]
    exact h4
  · unfold TBm at *
    rw [hF 50 (by decide), hF 57 (by decide), hFa.2 10 (by decide), hFa.1 57 (by decide) (by decide)]
    exact h5
theorem y_becomes {d ix v : Nat} {s : AS} {M : Mem} (hY : YR s M) (hi : (ix = 2 ∧ 1 ≤ v ∧ v ≤ 5) ∨ (ix = 3 ∧ v ≤ 2) ∨ (4 ≤ ix ∧ ix < 8 ∧ v ≤ 1) ∨ (8 ≤ ix ∧ ix < 12 ∧ v ≤ 9)) : Call l α D cA uX10_becomes (d + 1) [.inr 50, .inl (nI ix), .inl (nI v)] M (PY M (nChange s ix v)) := by
  refine Call.of kX10_becomes.1 (Nat.le_of_ble_eq_true rfl) ?_
  obtain ⟨hok, hs, hPA, hKE, hFA, hTB⟩ := id hY
  have hk := hok.1
  have h9 := gok_9 hk ix (by omega)
  refine G_aload_n dX10_becomes_0 rfl rfl ?_
  refine G_getR (j := 51) dX10_becomes_1 fX10_7 rfl rfl ?_
  refine G_iload_n dX10_becomes_4 rfl rfl ?_
  refine G_iald (k := ix) (v := (nI (s.2.1 ix))) dX10_becomes_5 rfl (vp_in_nI (by omega) (by omega)) (nI_clamp (by omega)) (hs.1 ix (by omega)) ?_
  refine G_istore_n (L2 := [some (.inr 50), some (.inl (nI ix)), some (.inl (nI v)), some (.inl (nI (s.2.1 ix)))]) dX10_becomes_6 rfl (Nat.le_of_ble_eq_true rfl) rfl ?_
  refine G_iload_n dX10_becomes_7 rfl rfl ?_
  refine G_iload_n dX10_becomes_8 rfl rfl ?_
  refine Gn_icmp_ne (tgt := 15) dX10_becomes_9 (by decide) (by omega) (by omega) (fun h9b => ?_) (fun h9b => ?_)
  · refine G_aload_n dX10_becomes_15 rfl rfl ?_
    refine G_callVv (ν := uX10_notes) (As := []) dX10_becomes_16 nX10_141 kX10_notes rfl rfl rfl rfl rfl (Nat.le_of_ble_eq_true rfl) (y_notes hs hk hok.2.1 hPA) ?_
    rintro _ Ma ⟨hFa, hPa⟩
    refine G_aload_n dX10_becomes_19 rfl rfl ?_
    refine G_getR (j := 51) dX10_becomes_20 fX10_7 rfl rfl ?_
    refine G_iload_n dX10_becomes_23 rfl rfl ?_
    refine G_iload_n dX10_becomes_24 rfl rfl ?_
    refine G_iast (k := ix) (v := (nI v)) dX10_becomes_25 rfl (vp_in_nI (by omega) (by omega)) (nI_clamp (by omega)) rfl ?_
    refine G_iload_n dX10_becomes_26 rfl rfl ?_
    refine G_iret dX10_becomes_27 rfl rfl ?_
    rw [nChange, if_neg h9b]
    exact PY_r (YR_push hY (gok_w hk hi) hFa hPa (fun q a => ms_q a) (by rw [ms_o, hFa.1 51 (by decide) (by decide)]; exact hS_w hs (by omega) (by omega))) (fun q hq => by rw [ms_q (by omega)]; exact hFa.1 q (by omega) (by omega))
  · refine G_bipush (v := ((-2))) dX10_becomes_12 (by decide) ?_
    refine G_iret dX10_becomes_14 rfl rfl ?_
    rw [nChange, if_pos h9b]
    exact PY_r hY (fun _ _ => rfl)
theorem y_ways {d : Nat} {s : AS} {M : Mem} {c0 w0 : Int32} (hY : YR s M) : Call l α D cA uX10_ways (d + 2) [.inr 50, .inl c0, .inl w0] M (PY M (nWays s c0 w0)) := by
  refine Call.of kX10_ways.1 (Nat.le_of_ble_eq_true rfl) ?_
  refine G_aload_n dX10_ways_0 rfl rfl ?_
  refine G_iconst (v := (nI 0)) dX10_ways_1 (by decide) ?_
  refine G_put dX10_ways_2 pX10_81 rfl rfl ?_
  have hF0 : FY M (ms M 50 0 (nI 0)) := FY_0
  generalize ms M 50 0 (nI 0) = M0 at hF0 ⊢
  have hY0 := YR_Y hY hF0
  obtain ⟨hok, hs, hPA, hKE, hFA, hTB⟩ := id hY0
  have hk := hok.1
  have hq0 := FY_50 hF0
  refine G_iload_n dX10_ways_5 rfl rfl ?_
  refine G_iconst (v := (nI 1)) dX10_ways_6 (by decide) ?_
  refine G_iconst (v := (nI 3)) dX10_ways_7 (by decide) ?_
  refine G_callSi (ν := uX10_in) (As := [.inl c0, .inl (nI 1), .inl (nI 3)]) dX10_ways_8 nX10_85 kX10_in rfl rfl rfl (Nat.le_of_ble_eq_true rfl) (y_inI (lo := 1) (hi := 3)) ?_
  rintro _ M8 ⟨rfl, e9⟩
  subst M8
  refine Gb_if_eq (tgt := 34) dX10_ways_11 (by decide) (fun h11 => ?_) (fun h11 => ?_)
  · refine G_iconst (v := ((-1))) dX10_ways_34 (by decide) ?_
    refine G_iret dX10_ways_35 rfl rfl ?_
    rw [nWays, cI_f (fun q => dec_niff.mp h11 q.1)]
    exact PY_r hY0 hq0
  · refine G_iload_n dX10_ways_14 rfl rfl ?_
    refine G_iconst (v := (nI 0)) dX10_ways_15 (by decide) ?_
    refine G_iconst (v := (nI 1)) dX10_ways_16 (by decide) ?_
    refine G_callSi (ν := uX10_in) (As := [.inl w0, .inl (nI 0), .inl (nI 1)]) dX10_ways_17 nX10_85 kX10_in rfl rfl rfl (Nat.le_of_ble_eq_true rfl) (y_inI (lo := 0) (hi := 1)) ?_
    rintro _ M8 ⟨rfl, e9⟩
    subst M8
    refine Gb_if_eq (tgt := 34) dX10_ways_20 (by decide) (fun h20 => ?_) (fun h20 => ?_)
    · refine G_iconst (v := ((-1))) dX10_ways_34 (by decide) ?_
      refine G_iret dX10_ways_35 rfl rfl ?_
      rw [nWays, cI_f (fun q => dec_niff.mp h20 q.2)]
      exact PY_r hY0 hq0
    · obtain ⟨c, hc1, hc3, rfl⟩ := inI_nI (dec_iff.mp h11) (by decide) (by decide)
      obtain ⟨w, -, hw, rfl⟩ := inI_nI (dec_iff.mp h20) (by decide) (by decide)
      refine G_aload_n dX10_ways_23 rfl rfl ?_
      refine G_iconst (v := (nI 4)) dX10_ways_24 (by decide) ?_
      refine G_iload_n dX10_ways_25 rfl rfl ?_
      refine G_iadd (v := (nI (4 + c))) dX10_ways_26 (nI_add _ _) ?_
      refine G_iload_n dX10_ways_27 rfl rfl ?_
      refine G_callVi (ν := uX10_becomes) (As := [.inl (nI (4 + c)), .inl (nI w)]) dX10_ways_28 nX10_154 kX10_becomes rfl rfl rfl rfl rfl (Nat.le_of_ble_eq_true rfl) (y_becomes hY0 (by omega)) ?_
      rintro _ Ma ⟨rfl, h8, h9⟩
      refine G_goto (tgt := 35) dX10_ways_31 (by decide) ?_
      refine G_iret dX10_ways_35 rfl rfl ?_
      rw [nWays, cI_t ⟨dec_iff.mp h11, dec_iff.mp h20⟩, nN (by omega), nN (by omega)]
      exact ⟨rfl, h8, fun q hq => (h9 q hq).trans (hq0 q hq)⟩
theorem y_ranks {d : Nat} {s : AS} {M : Mem} {c0 w0 : Int32} (hY : YR s M) : Call l α D cA uX10_ranks (d + 2) [.inr 50, .inl c0, .inl w0] M (PY M (nRanks s c0 w0)) := by
  refine Call.of kX10_ranks.1 (Nat.le_of_ble_eq_true rfl) ?_
  refine G_aload_n dX10_ranks_0 rfl rfl ?_
  refine G_iconst (v := (nI 0)) dX10_ranks_1 (by decide) ?_
  refine G_put dX10_ranks_2 pX10_81 rfl rfl ?_
  have hF0 : FY M (ms M 50 0 (nI 0)) := FY_0
  generalize ms M 50 0 (nI 0) = M0 at hF0 ⊢
  have hY0 := YR_Y hY hF0
  obtain ⟨hok, hs, hPA, hKE, hFA, hTB⟩ := id hY0
  have hk := hok.1
  have hq0 := FY_50 hF0
  refine G_iload_n dX10_ranks_5 rfl rfl ?_
  refine G_iconst (v := (nI 1)) dX10_ranks_6 (by decide) ?_
  refine G_iconst (v := (nI 3)) dX10_ranks_7 (by decide) ?_
  refine G_callSi (ν := uX10_in) (As := [.inl c0, .inl (nI 1), .inl (nI 3)]) dX10_ranks_8 nX10_85 kX10_in rfl rfl rfl (Nat.le_of_ble_eq_true rfl) (y_inI (lo := 1) (hi := 3)) ?_
  rintro _ M8 ⟨rfl, e9⟩
  subst M8
  refine Gb_if_eq (tgt := 36) dX10_ranks_11 (by decide) (fun h11 => ?_) (fun h11 => ?_)
  · refine G_iconst (v := ((-1))) dX10_ranks_36 (by decide) ?_
    refine G_iret dX10_ranks_37 rfl rfl ?_
    rw [nRanks, cI_f (fun q => dec_niff.mp h11 q.1)]
    exact PY_r hY0 hq0
  · refine G_iload_n dX10_ranks_14 rfl rfl ?_
    refine G_iconst (v := (nI 0)) dX10_ranks_15 (by decide) ?_
    refine G_bipush (v := (nI 9)) dX10_ranks_16 (by decide) ?_
    refine G_callSi (ν := uX10_in) (As := [.inl w0, .inl (nI 0), .inl (nI 9)]) dX10_ranks_18 nX10_85 kX10_in rfl rfl rfl (Nat.le_of_ble_eq_true rfl) (y_inI (lo := 0) (hi := 9)) ?_
    rintro _ M8 ⟨rfl, e9⟩
    subst M8
    refine Gb_if_eq (tgt := 36) dX10_ranks_21 (by decide) (fun h21 => ?_) (fun h21 => ?_)
    · refine G_iconst (v := ((-1))) dX10_ranks_36 (by decide) ?_
      refine G_iret dX10_ranks_37 rfl rfl ?_
      rw [nRanks, cI_f (fun q => dec_niff.mp h21 q.2)]
      exact PY_r hY0 hq0
    · obtain ⟨c, hc1, hc3, rfl⟩ := inI_nI (dec_iff.mp h11) (by decide) (by decide)
      obtain ⟨w, -, hw, rfl⟩ := inI_nI (dec_iff.mp h21) (by decide) (by decide)
      refine G_aload_n dX10_ranks_24 rfl rfl ?_
      refine G_bipush (v := (nI 8)) dX10_ranks_25 (by decide) ?_
      refine G_iload_n dX10_ranks_27 rfl rfl ?_
      refine G_iadd (v := (nI (8 + c))) dX10_ranks_28 (nI_add _ _) ?_
      refine G_iload_n dX10_ranks_29 rfl rfl ?_
      refine G_callVi (ν := uX10_becomes) (As := [.inl (nI (8 + c)), .inl (nI w)]) dX10_ranks_30 nX10_154 kX10_becomes rfl rfl rfl rfl rfl (Nat.le_of_ble_eq_true rfl) (y_becomes hY0 (by omega)) ?_
      rintro _ Ma ⟨rfl, h8, h9⟩
      refine G_goto (tgt := 37) dX10_ranks_33 (by decide) ?_
      refine G_iret dX10_ranks_37 rfl rfl ?_
      rw [nRanks, cI_t ⟨dec_iff.mp h11, dec_iff.mp h21⟩, nN (by omega), nN (by omega)]
      exact ⟨rfl, h8, fun q hq => (h9 q hq).trans (hq0 q hq)⟩
theorem y_mosts {d : Nat} {s : AS} {M : Mem} {w0 : Int32} (hY : YR s M) : Call l α D cA uX10_mosts (d + 2) [.inr 50, .inl w0] M (PY M (nMosts s w0)) := by
  refine Call.of kX10_mosts.1 (Nat.le_of_ble_eq_true rfl) ?_
  refine G_aload_n dX10_mosts_0 rfl rfl ?_
  refine G_iconst (v := (nI 0)) dX10_mosts_1 (by decide) ?_
  refine G_put dX10_mosts_2 pX10_81 rfl rfl ?_
  have hF0 : FY M (ms M 50 0 (nI 0)) := FY_0
  generalize ms M 50 0 (nI 0) = M0 at hF0 ⊢
  have hY0 := YR_Y hY hF0
  obtain ⟨hok, hs, hPA, hKE, hFA, hTB⟩ := id hY0
  have hk := hok.1
  have hq0 := FY_50 hF0
  refine G_iload_n dX10_mosts_5 rfl rfl ?_
  refine G_iconst (v := (nI 1)) dX10_mosts_6 (by decide) ?_
  refine G_iconst (v := (nI 5)) dX10_mosts_7 (by decide) ?_
  refine G_callSi (ν := uX10_in) (As := [.inl w0, .inl (nI 1), .inl (nI 5)]) dX10_mosts_8 nX10_85 kX10_in rfl rfl rfl (Nat.le_of_ble_eq_true rfl) (y_inI (lo := 1) (hi := 5)) ?_
  rintro _ M8 ⟨rfl, e9⟩
  subst M8
  refine Gb_if_eq (tgt := 23) dX10_mosts_11 (by decide) (fun h11 => ?_) (fun h11 => ?_)
  · refine G_iconst (v := ((-1))) dX10_mosts_23 (by decide) ?_
    refine G_iret dX10_mosts_24 rfl rfl ?_
    rw [nMosts, cI_f (dec_niff.mp h11)]
    exact PY_r hY0 hq0
  · obtain ⟨w, hw0, hw, rfl⟩ := inI_nI (dec_iff.mp h11) (by decide) (by decide)
    refine G_aload_n dX10_mosts_14 rfl rfl ?_
    refine G_iconst (v := (nI 2)) dX10_mosts_15 (by decide) ?_
    refine G_iload_n dX10_mosts_16 rfl rfl ?_
    refine G_callVi (ν := uX10_becomes) (As := [.inl (nI 2), .inl (nI w)]) dX10_mosts_17 nX10_154 kX10_becomes rfl rfl rfl rfl rfl (Nat.le_of_ble_eq_true rfl) (y_becomes hY0 (by omega)) ?_
    rintro _ Ma ⟨rfl, h8, h9⟩
    refine G_goto (tgt := 24) dX10_mosts_20 (by decide) ?_
    refine G_iret dX10_mosts_24 rfl rfl ?_
    rw [nMosts, cI_t (dec_iff.mp h11), nN (by omega)]
    exact ⟨rfl, h8, fun q hq => (h9 q hq).trans (hq0 q hq)⟩
theorem y_pulls {d : Nat} {s : AS} {M : Mem} {w0 : Int32} (hY : YR s M) : Call l α D cA uX10_pulls (d + 2) [.inr 50, .inl w0] M (PY M (nPulls s w0)) := by
  refine Call.of kX10_pulls.1 (Nat.le_of_ble_eq_true rfl) ?_
  refine G_aload_n dX10_pulls_0 rfl rfl ?_
  refine G_iconst (v := (nI 0)) dX10_pulls_1 (by decide) ?_
  refine G_put dX10_pulls_2 pX10_81 rfl rfl ?_
  have hF0 : FY M (ms M 50 0 (nI 0)) := FY_0
  generalize ms M 50 0 (nI 0) = M0 at hF0 ⊢
  have hY0 := YR_Y hY hF0
  obtain ⟨hok, hs, hPA, hKE, hFA, hTB⟩ := id hY0
  have hk := hok.1
  have hq0 := FY_50 hF0
  refine G_iload_n dX10_pulls_5 rfl rfl ?_
  refine G_iconst (v := (nI 0)) dX10_pulls_6 (by decide) ?_
  refine G_iconst (v := (nI 2)) dX10_pulls_7 (by decide) ?_
  refine G_callSi (ν := uX10_in) (As := [.inl w0, .inl (nI 0), .inl (nI 2)]) dX10_pulls_8 nX10_85 kX10_in rfl rfl rfl (Nat.le_of_ble_eq_true rfl) (y_inI (lo := 0) (hi := 2)) ?_
  rintro _ M8 ⟨rfl, e9⟩
  subst M8
  refine Gb_if_eq (tgt := 23) dX10_pulls_11 (by decide) (fun h11 => ?_) (fun h11 => ?_)
  · refine G_iconst (v := ((-1))) dX10_pulls_23 (by decide) ?_
    refine G_iret dX10_pulls_24 rfl rfl ?_
    rw [nPulls, cI_f (dec_niff.mp h11)]
    exact PY_r hY0 hq0
  · obtain ⟨w, hw0, hw, rfl⟩ := inI_nI (dec_iff.mp h11) (by decide) (by decide)
    refine G_aload_n dX10_pulls_14 rfl rfl ?_
    refine G_iconst (v := (nI 3)) dX10_pulls_15 (by decide) ?_
    refine G_iload_n dX10_pulls_16 rfl rfl ?_
    refine G_callVi (ν := uX10_becomes) (As := [.inl (nI 3), .inl (nI w)]) dX10_pulls_17 nX10_154 kX10_becomes rfl rfl rfl rfl rfl (Nat.le_of_ble_eq_true rfl) (y_becomes hY0 (by omega)) ?_
    rintro _ Ma ⟨rfl, h8, h9⟩
    refine G_goto (tgt := 24) dX10_pulls_20 (by decide) ?_
    refine G_iret dX10_pulls_24 rfl rfl ?_
    rw [nPulls, cI_t (dec_iff.mp h11), nN (by omega)]
    exact ⟨rfl, h8, fun q hq => (h9 q hq).trans (hq0 q hq)⟩
theorem y_sees {d : Nat} {s : AS} {M : Mem} {v0 w0 n0 : Int32} (hY : YR s M) : Call l α D cA uX10_sees (d + 1) [.inr 50, .inl v0, .inl w0, .inl n0] M (PY M (nSees s v0 w0 n0)) := by
  refine Call.of kX10_sees.1 (Nat.le_of_ble_eq_true rfl) ?_
  refine G_aload_n dX10_sees_0 rfl rfl ?_
  refine G_iconst (v := (nI 0)) dX10_sees_1 (by decide) ?_
  refine G_put dX10_sees_2 pX10_81 rfl rfl ?_
  have hF0 : FY M (ms M 50 0 (nI 0)) := FY_0
  generalize ms M 50 0 (nI 0) = M0 at hF0 ⊢
  have hY0 := YR_Y hY hF0
  obtain ⟨hok, hs, hPA, hKE, hFA, hTB⟩ := id hY0
  have hk := hok.1
  have hq0 := FY_50 hF0
  refine G_iload_n dX10_sees_5 rfl rfl ?_
  refine G_iconst (v := (nI 0)) dX10_sees_6 (by decide) ?_
  refine G_iconst (v := (nI 1)) dX10_sees_7 (by decide) ?_
  refine G_callSi (ν := uX10_in) (As := [.inl v0, .inl (nI 0), .inl (nI 1)]) dX10_sees_8 nX10_85 kX10_in rfl rfl rfl (Nat.le_of_ble_eq_true rfl) (y_inI (lo := 0) (hi := 1)) ?_
  rintro _ M8 ⟨rfl, e9⟩
  subst M8
  refine Gb_if_eq (tgt := 33) dX10_sees_11 (by decide) (fun h11 => ?_) (fun h11 => ?_)
  · refine G_iconst (v := ((-1))) dX10_sees_33 (by decide) ?_
    refine G_iret dX10_sees_34 rfl rfl ?_
    rw [nSees, cI_f (fun q => dec_niff.mp h11 q.1)]
    exact PY_r hY0 hq0
  · refine G_iload_n dX10_sees_14 rfl rfl ?_
    refine G_iconst (v := (nI 0)) dX10_sees_15 (by decide) ?_
    refine G_iconst (v := (nI 3)) dX10_sees_16 (by decide) ?_
    refine G_callSi (ν := uX10_in) (As := [.inl w0, .inl (nI 0), .inl (nI 3)]) dX10_sees_17 nX10_85 kX10_in rfl rfl rfl (Nat.le_of_ble_eq_true rfl) (y_inI (lo := 0) (hi := 3)) ?_
    rintro _ M8 ⟨rfl, e9⟩
    subst M8
    refine Gb_if_eq (tgt := 33) dX10_sees_20 (by decide) (fun h20 => ?_) (fun h20 => ?_)
    · refine G_iconst (v := ((-1))) dX10_sees_33 (by decide) ?_
      refine G_iret dX10_sees_34 rfl rfl ?_
      rw [nSees, cI_f (fun q => dec_niff.mp h20 q.2.1)]
      exact PY_r hY0 hq0
    · refine G_iload_n dX10_sees_23 rfl rfl ?_
      refine G_iconst (v := (nI 0)) dX10_sees_24 (by decide) ?_
      refine G_bipush (v := (nI 99)) dX10_sees_25 (by decide) ?_
      refine G_callSi (ν := uX10_in) (As := [.inl n0, .inl (nI 0), .inl (nI 99)]) dX10_sees_27 nX10_85 kX10_in rfl rfl rfl (Nat.le_of_ble_eq_true rfl) (y_inI (lo := 0) (hi := 99)) ?_
      rintro _ M8 ⟨rfl, e9⟩
      subst M8
      refine Gb_if_ne (tgt := 35) dX10_sees_30 (by decide) (fun h30 => ?_) (fun h30 => ?_)
      · obtain ⟨v, -, hv, rfl⟩ := inI_nI (dec_iff.mp h11) (by decide) (by decide)
        obtain ⟨w, -, hw, rfl⟩ := inI_nI (dec_iff.mp h20) (by decide) (by decide)
        obtain ⟨n, -, hn, rfl⟩ := inI_nI (dec_iff.mp h30) (by decide) (by decide)
        have hn6 := hFA.2.1
        refine G_aload_n dX10_sees_35 rfl rfl ?_
        refine G_getI (v := (nI (s.2.2.2.2.1))) dX10_sees_36 fX10_262 rfl rfl hFA.1 ?_
        refine G_bipush (v := (nI 6)) dX10_sees_39 (by decide) ?_
        refine Gn_icmp_ne (tgt := 47) dX10_sees_41 (by decide) (by omega) (by omega) (fun h41 => ?_) (fun h41 => ?_)
        · refine G_aload_n dX10_sees_47 rfl rfl ?_
          refine G_getR (j := 56) dX10_sees_48 fX10_26 rfl rfl ?_
          refine G_iconst (v := (nI 3)) dX10_sees_51 (by decide) ?_
          refine G_aload_n dX10_sees_52 rfl rfl ?_
          refine G_getI (v := (nI (s.2.2.2.2.1))) dX10_sees_53 fX10_262 rfl rfl hFA.1 ?_
          refine G_imul (v := (nI (3 * (s.2.2.2.2.1)))) dX10_sees_56 (pk_mul _ _) ?_
          refine G_iload_n dX10_sees_57 rfl rfl ?_
          refine G_iast (k := 3 * (s.2.2.2.2.1)) (v := (nI v)) dX10_sees_58 rfl (vp_in_nI (by omega) (by omega)) (nI_clamp (by omega)) rfl ?_
          refine G_aload_n dX10_sees_59 rfl rfl ?_
          refine G_getR (j := 56) dX10_sees_60 fX10_26 rfl rfl ?_
          refine G_iconst (v := (nI 3)) dX10_sees_63 (by decide) ?_
          refine G_aload_n dX10_sees_64 rfl rfl ?_
          refine G_getI (v := (nI (s.2.2.2.2.1))) dX10_sees_65 fX10_262 rfl rfl (by rw [ms_q (by decide)]; exact hFA.1) ?_
          refine G_imul (v := (nI (3 * (s.2.2.2.2.1)))) dX10_sees_68 (pk_mul _ _) ?_
          refine G_iconst (v := (nI 1)) dX10_sees_69 (by decide) ?_
          refine G_iadd (v := (nI ((3 * (s.2.2.2.2.1)) + 1))) dX10_sees_70 (nI_add _ _) ?_
          refine G_iload_n dX10_sees_71 rfl rfl ?_
          refine G_iast (k := (3 * (s.2.2.2.2.1)) + 1) (v := (nI w)) dX10_sees_72 rfl (vp_in_nI (by omega) (by omega)) (nI_clamp (by omega)) rfl ?_
          refine G_aload_n dX10_sees_73 rfl rfl ?_
          refine G_getR (j := 56) dX10_sees_74 fX10_26 rfl rfl ?_
          refine G_iconst (v := (nI 3)) dX10_sees_77 (by decide) ?_
          refine G_aload_n dX10_sees_78 rfl rfl ?_
          refine G_getI (v := (nI (s.2.2.2.2.1))) dX10_sees_79 fX10_262 rfl rfl (by rw [ms_q (by decide), ms_q (by decide)]; exact hFA.1) ?_
          refine G_imul (v := (nI (3 * (s.2.2.2.2.1)))) dX10_sees_82 (pk_mul _ _) ?_
          refine G_iconst (v := (nI 2)) dX10_sees_83 (by decide) ?_
          refine G_iadd (v := (nI ((3 * (s.2.2.2.2.1)) + 2))) dX10_sees_84 (nI_add _ _) ?_
          refine G_iload_n dX10_sees_85 rfl rfl ?_
          refine G_iast (k := (3 * (s.2.2.2.2.1)) + 2) (v := (nI n)) dX10_sees_86 rfl (vp_in_nI (by omega) (by omega)) (nI_clamp (by omega)) rfl ?_
          refine G_aload_n dX10_sees_87 rfl rfl ?_
          refine G_dup dX10_sees_88 ?_
          refine G_getI (v := (nI (s.2.2.2.2.1))) dX10_sees_89 fX10_262 rfl rfl (by rw [ms_q (by decide), ms_q (by decide), ms_q (by decide)]; exact hFA.1) ?_
          refine G_iconst (v := (nI 1)) dX10_sees_92 (by decide) ?_
          refine G_iadd (v := (nI ((s.2.2.2.2.1) + 1))) dX10_sees_93 (nI_add _ _) ?_
          refine G_put dX10_sees_94 pX10_262 rfl rfl ?_
          refine G_aload_n dX10_sees_97 rfl rfl ?_
          refine G_getI (v := (nI (s.2.2.2.2.1 + 1))) dX10_sees_98 fX10_262 rfl rfl (by rw [ms_o]; exact upd_k) ?_
          refine G_iret dX10_sees_101 rfl rfl ?_
          rw [nSees, cI_t ⟨dec_iff.mp h11, dec_iff.mp h20, dec_iff.mp h30⟩, if_neg (by omega), nN (by omega), nN (by omega), nN (by omega)]
          refine PY_r ⟨hok, ?_, ?_, ?_, ⟨?_, by show s.2.2.2.2.1 + 1 ≤ 6; omega, fun i hi => ?_⟩, ?_⟩ (fun q hq => by rw [ms_q (by omega), ms_q (by omega), ms_q (by omega), ms_q (by omega)]; exact hq0 q hq)
          · simp only [ms_q (show (51 : Nat) ≠ 50 by decide), ms_q (show (51 : Nat) ≠ 56 by decide)]; exact hs
          · unfold PAm at *; simp only [ms_o, upd_n (show (4 : Nat) ≠ 8 by decide), ms_q (show (50 : Nat) ≠ 56 by decide), ms_q (show (53 : Nat) ≠ 50 by decide), ms_q (show (53 : Nat) ≠ 56 by decide)]; exact hPA
          · unfold KEm at *; simp only [ms_q (show (54 : Nat) ≠ 50 by decide), ms_q (show (54 : Nat) ≠ 56 by decide), ms_q (show (55 : Nat) ≠ 50 by decide), ms_q (show (55 : Nat) ≠ 56 by decide)]; exact hKE
          · rw [ms_o]; exact upd_k
          · have hi : i < s.2.2.2.2.1 + 1 := hi
            try dsimp only
            simp only [ms_q (show (56 : Nat) ≠ 50 by decide), ms_o]
            unfold upd updN
            by_cases e : i = s.2.2.2.2.1
            · subst e
              simp
              exact ⟨by omega, by omega, hn⟩
            · rw [if_neg (show ¬ 3 * i = 3 * s.2.2.2.2.1 + 2 by omega), if_neg (show ¬ 3 * i = 3 * s.2.2.2.2.1 + 1 by omega), if_neg (show ¬ 3 * i = 3 * s.2.2.2.2.1 by omega), if_neg (show ¬ 3 * i + 1 = 3 * s.2.2.2.2.1 + 2 by omega), if_neg (show ¬ 3 * i + 1 = 3 * s.2.2.2.2.1 + 1 by omega), if_neg (show ¬ 3 * i + 1 = 3 * s.2.2.2.2.1 by omega), if_neg (show ¬ 3 * i + 2 = 3 * s.2.2.2.2.1 + 2 by omega), if_neg (show ¬ 3 * i + 2 = 3 * s.2.2.2.2.1 + 1 by omega), if_neg (show ¬ 3 * i + 2 = 3 * s.2.2.2.2.1 by omega), if_neg e, if_neg e, if_neg e]
              exact hFA.2.2 i (by omega)
          · unfold TBm at *; simp only [ms_o, upd_n (show (10 : Nat) ≠ 8 by decide), ms_q (show (50 : Nat) ≠ 56 by decide), ms_q (show (57 : Nat) ≠ 50 by decide), ms_q (show (57 : Nat) ≠ 56 by decide)]; exact hTB
        · refine G_bipush (v := ((-3))) dX10_sees_44 (by decide) ?_
          refine G_iret dX10_sees_46 rfl rfl ?_
          rw [nSees, cI_t ⟨dec_iff.mp h11, dec_iff.mp h20, dec_iff.mp h30⟩, if_pos (by omega)]
          exact PY_r hY0 hq0
      · refine G_iconst (v := ((-1))) dX10_sees_33 (by decide) ?_
        refine G_iret dX10_sees_34 rfl rfl ?_
        rw [nSees, cI_f (fun q => dec_niff.mp h30 q.2.2)]
        exact PY_r hY0 hq0
theorem ly_undo {d n : Nat} {s : AS} {M M0 M2 : Mem} (hY0 : YR s M0) (hq0 : ∀ q, q < 50 → M0 q = M q) (hn : s.2.2.1.1 = n + 1) (hF2 : (∀ q, q ≠ 50 → M2 q = M0 q) ∧ (∀ j, j ≠ 4 → M2 50 j = M0 50 j) ∧ M2 50 4 = nI n) : ∀ (k k0 : Nat) (M1 : Mem), 60 - k0 = k → k0 ≤ 60 → (∀ q, q ≠ 51 → M1 q = M2 q) → (∀ j, j < k0 → M1 51 j = M0 53 (60 * n + j)) → G l α D cA uX10_undo none d (PY M (nUndo s)) 27 [some (.inr 50), some (.inl (nI k0))] [] M1 := by
  obtain ⟨hok, hs, hPA, hKE, hFA, hTB⟩ := id hY0
  have hn6 := hPA.2.1
  intro k
  induction k using Nat.strongRecOn with
  | _ k ih => ?_
  intro k0 M1 hkk hk0 hF hC
  refine G_iload_n dX10_undo_27 rfl rfl ?_
  refine G_bipush (v := (nI 60)) dX10_undo_28 (by decide) ?_
  refine Gn_icmp_ge (tgt := 59) dX10_undo_30 (by decide) (by omega) (by omega) (fun h30 => ?_) (fun h30 => ?_)
  · refine G_aload_n dX10_undo_59 rfl rfl ?_
    refine G_getI (v := (nI n)) dX10_undo_60 fX10_144 rfl rfl (by rw [hF 50 (by decide)]; exact hF2.2.2) ?_
    refine G_iret dX10_undo_63 rfl rfl ?_
    have e : k0 = 60 := by omega
    subst e
    rw [nUndo, if_neg (by omega), show s.2.2.1.1 - 1 = n by omega]
    have h0 := hPA.2.2 0 (by omega)
    refine PY_r ⟨⟨hok.2.1 0 (by omega), fun i hi => hok.2.1 (i + 1) (by have : i < n := hi; omega), hok.2.2⟩, hS_cong (hok.2.1 0 (by omega)) h0 (fun j hj => ?_), ⟨?_, by show n ≤ 6; omega, fun i hi => ?_⟩, ?_, ?_, ?_⟩ (fun q hq => by rw [hF q (by omega), hF2.1 q (by omega)]; exact hq0 q hq)
    · rw [hC j hj, hn]
      exact congrArg (M0 53) (by omega)
    · rw [hF 50 (by decide)]; exact hF2.2.2
    · have hi : i < n := hi
      rw [hF 53 (by decide), hF2.1 53 (by decide)]
      have h1 := hPA.2.2 (i + 1) (by omega)
      rw [hn, show n + 1 - 1 - (i + 1) = n - 1 - i by omega] at h1
      exact h1
    · unfold KEm at *; rw [hF 55 (by decide), hF 54 (by decide), hF2.1 55 (by decide), hF2.1 54 (by decide)]; exact hKE
    · unfold FAm at *; rw [hF 50 (by decide), hF 56 (by decide), hF2.2.1 8 (by decide), hF2.1 56 (by decide)]; exact hFA
    · unfold TBm at *; rw [hF 50 (by decide), hF 57 (by decide), hF2.2.1 10 (by decide), hF2.1 57 (by decide)]; exact hTB
  · refine G_aload_n dX10_undo_33 rfl rfl ?_
    refine G_getR (j := 51) dX10_undo_34 fX10_7 rfl rfl ?_
    refine G_iload_n dX10_undo_37 rfl rfl ?_
    refine G_aload_n dX10_undo_38 rfl rfl ?_
    refine G_getR (j := 53) dX10_undo_39 fX10_16 rfl rfl ?_
    refine G_bipush (v := (nI 60)) dX10_undo_42 (by decide) ?_
    refine G_aload_n dX10_undo_44 rfl rfl ?_
    refine G_getI (v := (nI n)) dX10_undo_45 fX10_144 rfl rfl (by rw [hF 50 (by decide)]; exact hF2.2.2) ?_
    refine G_imul (v := (nI (60 * n))) dX10_undo_48 (pk_mul _ _) ?_
    refine G_iload_n dX10_undo_49 rfl rfl ?_
    refine G_iadd (v := (nI ((60 * n) + k0))) dX10_undo_50 (nI_add _ _) ?_
    refine G_iald (k := (60 * n) + k0) (v := (M0 53 (60 * n + k0))) dX10_undo_51 rfl (vp_in_nI (by omega) (by omega)) (nI_clamp (by omega)) (by rw [hF 53 (by decide), hF2.1 53 (by decide)]) ?_
    refine G_iast (k := k0) (v := (M0 53 (60 * n + k0))) dX10_undo_52 rfl (vp_in_nI (by omega) (by omega)) (nI_clamp (by omega)) rfl ?_
    refine G_iinc (v := (nI (k0 + 1))) (L2 := [some (.inr 50), some (.inl (nI (k0 + 1)))]) dX10_undo_53 rfl (nI_1 _) rfl ?_
    refine G_goto (tgt := 27) dX10_undo_56 (by decide) ?_
    refine ih (60 - (k0 + 1)) (by omega) (k0 + 1) _ rfl (by omega) (fun q a => by rw [ms_q a]; exact hF q a) (fun j hj => ?_)
    rw [ms_o]
    by_cases e : j = k0
    · subst e; exact upd_k
    · rw [upd_n e]; exact hC j (by omega)
theorem y_undo {d : Nat} {s : AS} {M : Mem} (hY : YR s M) : Call l α D cA uX10_undo (d + 1) [.inr 50] M (PY M (nUndo s)) := by
  refine Call.of kX10_undo.1 (Nat.le_of_ble_eq_true rfl) ?_
  refine G_aload_n dX10_undo_0 rfl rfl ?_
  refine G_iconst (v := (nI 0)) dX10_undo_1 (by decide) ?_
  refine G_put dX10_undo_2 pX10_81 rfl rfl ?_
  have hF0 : FY M (ms M 50 0 (nI 0)) := FY_0
  generalize ms M 50 0 (nI 0) = M0 at hF0 ⊢
  have hY0 := YR_Y hY hF0
  obtain ⟨hok, hs, hPA, hKE, hFA, hTB⟩ := id hY0
  have hk := hok.1
  have hq0 := FY_50 hF0
  have hn6 := hPA.2.1
  refine G_aload_n dX10_undo_5 rfl rfl ?_
  refine G_getI (v := (nI (s.2.2.1.1))) dX10_undo_6 fX10_144 rfl rfl hPA.1 ?_
  refine Gn_if_ne (tgt := 15) dX10_undo_9 (by decide) (by omega) (fun h9 => ?_) (fun h9 => ?_)
  · refine G_aload_n dX10_undo_15 rfl rfl ?_
    refine G_dup dX10_undo_16 ?_
    refine G_getI (v := (nI (s.2.2.1.1))) dX10_undo_17 fX10_144 rfl rfl hPA.1 ?_
    refine G_iconst (v := (nI 1)) dX10_undo_20 (by decide) ?_
    refine G_isub (v := (nI ((s.2.2.1.1) - 1))) dX10_undo_21 (pk_sub (by omega)) ?_
    refine G_put dX10_undo_22 pX10_144 rfl rfl ?_
    refine G_iconst (v := (nI 0)) dX10_undo_25 (by decide) ?_
    refine G_istore_n (L2 := [some (.inr 50), some (.inl (nI 0))]) dX10_undo_26 rfl (Nat.le_of_ble_eq_true rfl) rfl ?_
    exact ly_undo (n := s.2.2.1.1 - 1) hY0 hq0 (by omega) ⟨fun q a => ms_q a, fun j a => by rw [ms_o, upd_n a], by rw [ms_o]; exact upd_k⟩ _ 0 _ rfl (Nat.zero_le _) (fun _ _ => rfl) (fun j hj => absurd hj (Nat.not_lt_zero _))
  · refine G_bipush (v := ((-2))) dX10_undo_12 (by decide) ?_
    refine G_iret dX10_undo_14 rfl rfl ?_
    rw [nUndo, if_pos h9]
    exact PY_r hY0 hq0
theorem ly_keep {d i : Nat} {s : AS} {M M0 : Mem} (hY0 : YR s M0) (hq0 : ∀ q, q < 50 → M0 q = M q) (hi : i ≤ 1) : ∀ (k k0 : Nat) (M1 : Mem), 60 - k0 = k → k0 ≤ 60 → M1 = mo M0 54 (fb_put (M0 54) (M0 51) (60 * i) k0) → G l α D cA uX10_keep none (d + 4) (PY M (nKeep s (nI i))) 18 [some (.inr 50), some (.inl (nI i)), some (.inl (nI k0))] [] M1 := by
  obtain ⟨hok, hs, hPA, hKE, hFA, hTB⟩ := id hY0
  have hk := hok.1
  intro k
  induction k using Nat.strongRecOn with
  | _ k ih => ?_
  intro k0 M1 hkk hk0 hF
  refine G_iload_n dX10_keep_18 rfl rfl ?_
  refine G_bipush (v := (nI 60)) dX10_keep_19 (by decide) ?_
  refine Gn_icmp_ge (tgt := 47) dX10_keep_21 (by decide) (by omega) (by omega) (fun h21 => ?_) (fun h21 => ?_)
  · have e : k0 = 60 := by omega
    subst e
    refine G_aload_n dX10_keep_47 rfl rfl ?_
    refine G_getR (j := 55) dX10_keep_48 fX10_22 rfl rfl ?_
    refine G_iload_n dX10_keep_51 rfl rfl ?_
    refine G_iconst (v := (nI 1)) dX10_keep_52 (by decide) ?_
    refine G_zast (k := i) (v := (nI 1)) dX10_keep_53 rfl (vp_in_nI (by omega) (by omega)) (nI_clamp (by omega)) (by decide) ?_
    refine G_aload_n dX10_keep_54 rfl rfl ?_
    refine G_callVi (ν := uX10_fieldsNow) (As := []) dX10_keep_55 nX10_268 kX10_fieldsNow rfl rfl rfl rfl rfl (Nat.le_of_ble_eq_true rfl) (y_fieldsNow (g := s.2.1) (by rw [ms_q (by decide), hF, mo_q (by decide)]; exact hs) hk) ?_
    rintro _ M8 ⟨rfl, e9, -⟩
    refine G_iret dX10_keep_58 rfl rfl ?_
    rw [nKeep, cI_t (inI_of (Nat.zero_le _) hi (by decide)), nN (by omega)]
    have hFY : ∀ q, q ≠ 50 → q ≠ 54 → q ≠ 55 → q ≠ 58 → M8 q = M0 q := fun q a b c e => by rw [e9.1 q a e, ms_q c, hF, mo_q b]
    have h50 : ∀ j, j ≠ 16 → M8 50 j = M0 50 j := fun j a => by rw [e9.2 j a, ms_q (by decide), hF, mo_q (by decide)]
    refine PY_r ⟨⟨hok.1, hok.2.1, fun j hj z => ?_⟩, ?_, ?_, fun j hj => ?_, ?_, ?_⟩ (fun q hq => by rw [hFY q (by omega) (by omega) (by omega) (by omega)]; exact hq0 q hq)
    · show gok (if j = i then s.2.1 else s.2.2.2.1.2 j)
      split
      · exact hk
      · next e => exact hok.2.2 j hj (by have z : (if j = i then true else s.2.2.2.1.1 j) = true := z; rw [if_neg e] at z; exact z)
    · rw [hFY 51 (by decide) (by decide) (by decide) (by decide)]; exact hs
    · unfold PAm at *; rw [h50 4 (by decide), hFY 53 (by decide) (by decide) (by decide) (by decide)]; exact hPA
    · show M8 55 j = bI (if j = i then true else s.2.2.2.1.1 j) ∧ ((if j = i then true else s.2.2.2.1.1 j) = true → hS (if j = i then s.2.1 else s.2.2.2.1.2 j) (fun k => M8 54 (60 * j + k)))
      rw [e9.1 55 (by decide) (by decide), e9.1 54 (by decide) (by decide), ms_o, ms_q (by decide), hF, mo_q (by decide), mo_o]
      by_cases e : j = i
      · subst e
        rw [if_pos rfl, if_pos rfl, upd_k]
        exact ⟨rfl, fun _ => hS_cong hk hs (fun x hx => by rw [fb_put_in (by omega) (by omega)]; exact congrArg (M0 51) (by omega))⟩
      · rw [if_neg e, if_neg e, upd_n e]
        refine ⟨(hKE j hj).1, fun z => hS_cong (hok.2.2 j hj z) ((hKE j hj).2 z) (fun x hx => by rw [fb_put_out (by omega)])⟩
    · unfold FAm at *; rw [h50 8 (by decide), hFY 56 (by decide) (by decide) (by decide) (by decide)]; exact hFA
    · unfold TBm at *; rw [h50 10 (by decide), hFY 57 (by decide) (by decide) (by decide) (by decide)]; exact hTB
  · refine G_aload_n dX10_keep_24 rfl rfl ?_
    refine G_getR (j := 54) dX10_keep_25 fX10_19 rfl rfl ?_
    refine G_bipush (v := (nI 60)) dX10_keep_28 (by decide) ?_
    refine G_iload_n dX10_keep_30 rfl rfl ?_
    refine G_imul (v := (nI (60 * i))) dX10_keep_31 (pk_mul _ _) ?_
    refine G_iload_n dX10_keep_32 rfl rfl ?_
    refine G_iadd (v := (nI ((60 * i) + k0))) dX10_keep_33 (nI_add _ _) ?_
    refine G_aload_n dX10_keep_34 rfl rfl ?_
    refine G_getR (j := 51) dX10_keep_35 fX10_7 rfl rfl ?_
    refine G_iload_n dX10_keep_38 rfl rfl ?_
    refine G_iald (k := k0) (v := (M0 51 k0)) dX10_keep_39 rfl (vp_in_nI (by omega) (by omega)) (nI_clamp (by omega)) (by rw [hF, mo_q (by decide)]) ?_
    refine G_iast (k := (60 * i) + k0) (v := (M0 51 k0)) dX10_keep_40 rfl (vp_in_nI (by omega) (by omega)) (nI_clamp (by omega)) rfl ?_
    refine G_iinc (v := (nI (k0 + 1))) (L2 := [some (.inr 50), some (.inl (nI i)), some (.inl (nI (k0 + 1)))]) dX10_keep_41 rfl (nI_1 _) rfl ?_
    refine G_goto (tgt := 18) dX10_keep_44 (by decide) ?_
    refine ih (60 - (k0 + 1)) (by omega) (k0 + 1) _ rfl (by omega) ?_
    rw [hF, ms_idem, fb_put_succ]
theorem y_keep {d : Nat} {s : AS} {M : Mem} {i0 : Int32} (hY : YR s M) : Call l α D cA uX10_keep (d + 4) [.inr 50, .inl i0] M (PY M (nKeep s i0)) := by
  refine Call.of kX10_keep.1 (Nat.le_of_ble_eq_true rfl) ?_
  refine G_aload_n dX10_keep_0 rfl rfl ?_
  refine G_iconst (v := (nI 0)) dX10_keep_1 (by decide) ?_
  refine G_put dX10_keep_2 pX10_81 rfl rfl ?_
  have hF0 : FY M (ms M 50 0 (nI 0)) := FY_0
  generalize ms M 50 0 (nI 0) = M0 at hF0 ⊢
  have hY0 := YR_Y hY hF0
  obtain ⟨hok, hs, hPA, hKE, hFA, hTB⟩ := id hY0
  have hk := hok.1
  have hq0 := FY_50 hF0
  refine G_iload_n dX10_keep_5 rfl rfl ?_
  refine G_iconst (v := (nI 0)) dX10_keep_6 (by decide) ?_
  refine G_iconst (v := (nI 1)) dX10_keep_7 (by decide) ?_
  refine G_callSi (ν := uX10_in) (As := [.inl i0, .inl (nI 0), .inl (nI 1)]) dX10_keep_8 nX10_85 kX10_in rfl rfl rfl (Nat.le_of_ble_eq_true rfl) (y_inI (lo := 0) (hi := 1)) ?_
  rintro _ M8 ⟨rfl, e9⟩
  subst M8
  refine Gb_if_ne (tgt := 16) dX10_keep_11 (by decide) (fun h11 => ?_) (fun h11 => ?_)
  · obtain ⟨i, -, hi, rfl⟩ := inI_nI (dec_iff.mp h11) (by decide) (by decide)
    refine G_iconst (v := (nI 0)) dX10_keep_16 (by decide) ?_
    refine G_istore_n (L2 := [some (.inr 50), some (.inl (nI i)), some (.inl (nI 0))]) dX10_keep_17 rfl (Nat.le_of_ble_eq_true rfl) rfl ?_
    exact ly_keep hY0 hq0 hi _ 0 M0 rfl (Nat.zero_le _) (by rw [fb_put_0, mo_self])
  · refine G_iconst (v := ((-1))) dX10_keep_14 (by decide) ?_
    refine G_iret dX10_keep_15 rfl rfl ?_
    rw [nKeep, cI_f (dec_niff.mp h11)]
    exact PY_r hY0 hq0
theorem ly_back {d i : Nat} {s : AS} {M M0 : Mem} (hY0 : YR s M0) (hq0 : ∀ q, q < 50 → M0 q = M q) (hi : i ≤ 1) (hsv : s.2.2.2.1.1 i = true) : ∀ (k k0 : Nat) (M1 : Mem), 60 - k0 = k → k0 ≤ 60 → (∀ q, q ≠ 51 → M1 q = M0 q) → (∀ j, j < k0 → M1 51 j = M0 54 (60 * i + j)) → G l α D cA uX10_back none (d + 4) (PY M (nBack s (nI i))) 30 [some (.inr 50), some (.inl (nI i)), some (.inl (nI k0))] [] M1 := by
  obtain ⟨hok, hs, hPA, hKE, hFA, hTB⟩ := id hY0
  have hki := hok.2.2 i (by omega) hsv
  have hKi := (hKE i (by omega)).2 hsv
  intro k
  induction k using Nat.strongRecOn with
  | _ k ih => ?_
  intro k0 M1 hkk hk0 hF hC
  refine G_iload_n dX10_back_30 rfl rfl ?_
  refine G_bipush (v := (nI 60)) dX10_back_31 (by decide) ?_
  refine Gn_icmp_ge (tgt := 59) dX10_back_33 (by decide) (by omega) (by omega) (fun h33 => ?_) (fun h33 => ?_)
  · have e : k0 = 60 := by omega
    subst e
    refine G_aload_n dX10_back_59 rfl rfl ?_
    refine G_iconst (v := (nI 0)) dX10_back_60 (by decide) ?_
    refine G_put dX10_back_61 pX10_144 rfl rfl ?_
    refine G_aload_n dX10_back_64 rfl rfl ?_
    refine G_callVi (ν := uX10_fieldsNow) (As := []) dX10_back_65 nX10_268 kX10_fieldsNow rfl rfl rfl rfl rfl (Nat.le_of_ble_eq_true rfl) (y_fieldsNow (g := s.2.2.2.1.2 i) (by rw [ms_q (by decide)]; exact hS_cong hki hKi hC) hki) ?_
    rintro _ M8 ⟨rfl, e9, -⟩
    refine G_iret dX10_back_68 rfl rfl ?_
    rw [nBack, cI_t (inI_of (Nat.zero_le _) hi (by decide)), nN (by omega), if_neg (nofalse hsv)]
    have hFY : ∀ q, q ≠ 50 → q ≠ 51 → q ≠ 58 → M8 q = M0 q := fun q a b e => by rw [e9.1 q a e, ms_q a, hF q b]
    have h50 : ∀ j, j ≠ 16 → j ≠ 4 → M8 50 j = M0 50 j := fun j a b => by rw [e9.2 j a, ms_o, upd_n b, hF 50 (by decide)]
    refine PY_r ⟨⟨hki, fun j hj => absurd hj (Nat.not_lt_zero _), hok.2.2⟩, ?_, ⟨?_, Nat.zero_le _, fun j hj => absurd hj (Nat.not_lt_zero _)⟩, ?_, ?_, ?_⟩ (fun q hq => by rw [hFY q (by omega) (by omega) (by omega)]; exact hq0 q hq)
    · rw [e9.1 51 (by decide) (by decide), ms_q (by decide)]; exact hS_cong hki hKi hC
    · rw [e9.2 4 (by decide), ms_o]; exact upd_k
    · unfold KEm at *; rw [hFY 55 (by decide) (by decide) (by decide), hFY 54 (by decide) (by decide) (by decide)]; exact hKE
    · unfold FAm at *; rw [h50 8 (by decide) (by decide), hFY 56 (by decide) (by decide) (by decide)]; exact hFA
    · unfold TBm at *; rw [h50 10 (by decide) (by decide), hFY 57 (by decide) (by decide) (by decide)]; exact hTB
  · refine G_aload_n dX10_back_36 rfl rfl ?_
    refine G_getR (j := 51) dX10_back_37 fX10_7 rfl rfl ?_
    refine G_iload_n dX10_back_40 rfl rfl ?_
    refine G_aload_n dX10_back_41 rfl rfl ?_
    refine G_getR (j := 54) dX10_back_42 fX10_19 rfl rfl ?_
    refine G_bipush (v := (nI 60)) dX10_back_45 (by decide) ?_
    refine G_iload_n dX10_back_47 rfl rfl ?_
    refine G_imul (v := (nI (60 * i))) dX10_back_48 (pk_mul _ _) ?_
    refine G_iload_n dX10_back_49 rfl rfl ?_
    refine G_iadd (v := (nI ((60 * i) + k0))) dX10_back_50 (nI_add _ _) ?_
    refine G_iald (k := (60 * i) + k0) (v := (M0 54 (60 * i + k0))) dX10_back_51 rfl (vp_in_nI (by omega) (by omega)) (nI_clamp (by omega)) (by rw [hF 54 (by decide)]) ?_
    refine G_iast (k := k0) (v := (M0 54 (60 * i + k0))) dX10_back_52 rfl (vp_in_nI (by omega) (by omega)) (nI_clamp (by omega)) rfl ?_
    refine G_iinc (v := (nI (k0 + 1))) (L2 := [some (.inr 50), some (.inl (nI i)), some (.inl (nI (k0 + 1)))]) dX10_back_53 rfl (nI_1 _) rfl ?_
    refine G_goto (tgt := 30) dX10_back_56 (by decide) ?_
    refine ih (60 - (k0 + 1)) (by omega) (k0 + 1) _ rfl (by omega) (fun q a => by rw [ms_q a]; exact hF q a) (fun j hj => ?_)
    rw [ms_o]
    by_cases e : j = k0
    · subst e; exact upd_k
    · rw [upd_n e]; exact hC j (by omega)
theorem y_back {d : Nat} {s : AS} {M : Mem} {i0 : Int32} (hY : YR s M) : Call l α D cA uX10_back (d + 4) [.inr 50, .inl i0] M (PY M (nBack s i0)) := by
  refine Call.of kX10_back.1 (Nat.le_of_ble_eq_true rfl) ?_
  refine G_aload_n dX10_back_0 rfl rfl ?_
  refine G_iconst (v := (nI 0)) dX10_back_1 (by decide) ?_
  refine G_put dX10_back_2 pX10_81 rfl rfl ?_
  have hF0 : FY M (ms M 50 0 (nI 0)) := FY_0
  generalize ms M 50 0 (nI 0) = M0 at hF0 ⊢
  have hY0 := YR_Y hY hF0
  obtain ⟨hok, hs, hPA, hKE, hFA, hTB⟩ := id hY0
  have hk := hok.1
  have hq0 := FY_50 hF0
  refine G_iload_n dX10_back_5 rfl rfl ?_
  refine G_iconst (v := (nI 0)) dX10_back_6 (by decide) ?_
  refine G_iconst (v := (nI 1)) dX10_back_7 (by decide) ?_
  refine G_callSi (ν := uX10_in) (As := [.inl i0, .inl (nI 0), .inl (nI 1)]) dX10_back_8 nX10_85 kX10_in rfl rfl rfl (Nat.le_of_ble_eq_true rfl) (y_inI (lo := 0) (hi := 1)) ?_
  rintro _ M8 ⟨rfl, e9⟩
  subst M8
  refine Gb_if_ne (tgt := 16) dX10_back_11 (by decide) (fun h11 => ?_) (fun h11 => ?_)
  · obtain ⟨i, -, hi, rfl⟩ := inI_nI (dec_iff.mp h11) (by decide) (by decide)
    refine G_aload_n dX10_back_16 rfl rfl ?_
    refine G_getR (j := 55) dX10_back_17 fX10_22 rfl rfl ?_
    refine G_iload_n dX10_back_20 rfl rfl ?_
    refine G_zald (k := i) (v := (bI (s.2.2.2.1.1 i))) dX10_back_21 rfl (vp_in_nI (by omega) (by omega)) (nI_clamp (by omega)) (hKE i (by omega)).1 ?_
    refine Gb_if_ne (tgt := 28) dX10_back_22 (by decide) (fun h22 => ?_) (fun h22 => ?_)
    · refine G_iconst (v := (nI 0)) dX10_back_28 (by decide) ?_
      refine G_istore_n (L2 := [some (.inr 50), some (.inl (nI i)), some (.inl (nI 0))]) dX10_back_29 rfl (Nat.le_of_ble_eq_true rfl) rfl ?_
      exact ly_back hY0 hq0 hi h22 _ 0 M0 rfl (Nat.zero_le _) (fun _ _ => rfl) (fun j hj => absurd hj (Nat.not_lt_zero _))
    · refine G_bipush (v := ((-2))) dX10_back_25 (by decide) ?_
      refine G_iret dX10_back_27 rfl rfl ?_
      rw [nBack, cI_t (inI_of (Nat.zero_le _) hi (by decide)), nN (by omega), if_pos h22]
      exact PY_r hY0 hq0
  · refine G_iconst (v := ((-1))) dX10_back_14 (by decide) ?_
    refine G_iret dX10_back_15 rfl rfl ?_
    rw [nBack, cI_f (dec_niff.mp h11)]
    exact PY_r hY0 hq0
end P35
