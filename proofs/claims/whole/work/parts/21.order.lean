/-! SewingOrder (31; sequence 32, done 33) -/
section P21
variable {l : Launch} {α : Nat → Nat} {D : va_G} {cA : Nat → ClassId}
noncomputable def col (g : Nat → Nat) (f : Nat) : Nat := g (12 + labR g f)
theorem col_in {g : Nat → Nat} (hk : gok g) {f : Nat} (hf : f < labN g) : 1 ≤ col g f ∧ col g f ≤ 3 ∧ labR g f < 48 := by
  obtain ⟨x1, x2, x3, x4⟩ := (labF_inv g).2.2.1 f hf
  have := (hk.2.2.2.2.2 (labR g f) x1).1
  unfold col
  omega
/-- a colour must wait for another one -/
def mw (g : Nat → Nat) (dn : Nat → Bool) (c : Nat) : Prop := ∃ o, 1 ≤ o ∧ o ≤ 3 ∧ dn o = false ∧ g (8 + o) < g (8 + c) ∧ tchd g o c
noncomputable def nxt (g : Nat → Nat) (dn : Nat → Bool) : Option Nat := fnd (fun f => !dn (col g f) && !dec (mw g dn (col g f))) (labN g)
def addL (co : Nat → Nat) (c : Nat) : Nat → Nat × (Nat → Nat) → Nat × (Nat → Nat)
  | 0, s => s
  | k + 1, s => if co k = c then ((addL co c k s).1 + 1, updN (addL co c k s).2 (addL co c k s).1 k) else addL co c k s
theorem addL_ct {co : Nat → Nat} {c : Nat} {s : Nat × (Nat → Nat)} : ∀ k, (addL co c k s).1 = s.1 + fb_ct (fun f => decide (co f = c)) k := by
  intro k
  induction k with
  | zero => rfl
  | succ k ih =>
    rw [addL, fb_ct_succ]
    by_cases h : co k = c
    · rw [if_pos h, if_pos (decide_eq_true h)]
      show (addL co c k s).1 + 1 = _
      rw [ih]
      omega
    · rw [if_neg h, if_neg (by rw [decide_eq_false h]; decide), ih]
      rfl
/-- so far: how many, the fields, the colours that are done, their number -/
abbrev OS : Type := Nat × (Nat → Nat) × (Nat → Bool) × Nat
noncomputable def ordT (g : Nat → Nat) (s : OS) : OS := match nxt g s.2.2.1 with
  | none => s
  | some f => ((addL (col g) (col g f) (labN g) (s.1, s.2.1)).1, (addL (col g) (col g f) (labN g) (s.1, s.2.1)).2, fun c => if c = col g f then true else s.2.2.1 c, s.2.2.2 + 1)
noncomputable def ordS (g : Nat → Nat) : Nat → OS
  | 0 => (0, fun _ => 0, fun _ => false, 0)
  | i + 1 => ordT g (ordS g i)
/-- what the order's cells hold -/
def OR (s : OS) (M : Mem) : Prop := M 31 2 = nI s.1 ∧ M 31 3 = nI s.2.2.2 ∧ (∀ i, i < s.1 → M 32 i = nI (s.2.1 i)) ∧ ∀ c, c < 4 → M 33 c = bI (s.2.2.1 c)
def FRO (M M1 : Mem) : Prop := ∀ q, (q < 31 ∨ 33 < q) → M1 q = M q
theorem MPg_O {g : Nat → Nat} {M M1 : Mem} (h : MPg g M) (hF : FRO M M1) : MPg g M1 := by
  unfold MPg MP at *
  rw [hF 12 (by decide), hF 8 (by decide), hF 13 (by decide), hF 14 (by decide), hF 15 (by decide)]
  exact h
theorem fnd_lt {P : Nat → Bool} {b : Nat} : ∀ {n : Nat}, fnd P n = some b → ∀ j, j < b → ¬ P j = true := by
  intro n
  induction n with
  | zero => intro h; cases h
  | succ n ih =>
    intro h j hj
    rw [fnd] at h
    cases hz : fnd P n with
    | some x =>
      rw [hz] at h
      cases h
      exact ih hz j hj
    | none =>
      rw [hz] at h
      dsimp only at h
      by_cases q : P n = true
      · rw [if_pos q] at h
        cases h
        exact fnd_none hz j hj
      · rw [if_neg q] at h
        cases h
theorem fnd_is {P : Nat → Bool} {b n : Nat} (hb : b < n) (h : P b = true) (h2 : ∀ j, j < b → ¬ P j = true) : fnd P n = some b := by
  cases hz : fnd P n with
  | none => exact absurd h (fnd_none hz b hb)
  | some x =>
    have h3 := (fnd_some hz).2
    have h4 := fnd_lt hz
    rcases Nat.lt_trichotomy x b with y | y | y
    · exact absurd h3 (h2 x y)
    · rw [y]
    · exact absurd h (h4 b y)
theorem fnd_no {P : Nat → Bool} {n : Nat} (h2 : ∀ j, j < n → ¬ P j = true) : fnd P n = none := by
  cases hz : fnd P n with
  | none => rfl
  | some x => exact absurd (fnd_some hz).2 (h2 x (fnd_some hz).1)
theorem ord_inv {g : Nat → Nat} : ∀ i, (ordS g i).1 = fb_ct (fun f => (ordS g i).2.2.1 (col g f)) (labN g) := by
  intro i
  induction i with
  | zero => exact (fb_ct_zero.mpr (fun _ _ => rfl)).symm
  | succ i ih =>
    rw [ordS, ordT]
    generalize hs : ordS g i = s at ih
    cases hz : nxt g s.2.2.1 with
    | none => exact ih
    | some f =>
      dsimp only
      have h := (fnd_some hz).2
      simp only [Bool.and_eq_true, Bool.not_eq_true'] at h
      rw [addL_ct, ih, ← fb_ct_or]
      · refine fb_ct_cong (fun k _ => ?_)
        by_cases e : col g k = col g f
        · rw [if_pos e, decide_eq_true e, Bool.or_true]
        · rw [if_neg e, decide_eq_false e, Bool.or_false]
      · rintro k _ ⟨h1, h2⟩
        rw [of_decide_eq_true h2, h.1] at h1
        cases h1
theorem c_isSewn {d c : Nat} {dn : Nat → Bool} {M : Mem} (hd : ∀ c, c < 4 → M 33 c = bI (dn c)) (hc : c < 4) : Call l α D cA uX6_isSewn (d + 1) [.inr 31, .inl (nI c)] M (fun r M1 => r = .inl (bI (dn c)) ∧ M1 = M) := by
  refine Call.of kX6_isSewn.1 (Nat.le_of_ble_eq_true rfl) ?_
  refine G_iload_n dX6_isSewn_0 rfl rfl ?_
  refine G_iconst (v := (nI 0)) dX6_isSewn_1 (by decide) ?_
  refine G_iconst (v := (nI 3)) dX6_isSewn_2 (by decide) ?_
  refine G_callSi (ν := uX9_within) (As := [.inl (nI c), .inl (nI 0), .inl (nI 3)]) dX6_isSewn_3 nX6_59 kX9_within rfl rfl rfl (Nat.le_of_ble_eq_true rfl) (c_within) ?_
  rintro _ M8 ⟨rfl, e9⟩
  subst M8
  rw [inr_nI (Nat.zero_le _) (by omega) (by decide)]
  refine Gb_if_eq (tgt := 22) dX6_isSewn_6 (by decide) (fun h6 => ?_) (fun h6 => ?_)
  · exact absurd h6 (by decide)
  · refine G_aload_n dX6_isSewn_9 rfl rfl ?_
    refine G_getR (j := 33) dX6_isSewn_10 fX6_15 rfl rfl ?_
    refine G_iload_n dX6_isSewn_13 rfl rfl ?_
    refine G_zald (k := c) (v := (bI (dn c))) dX6_isSewn_14 rfl (vp_in_nI (by omega) (by omega)) (nI_clamp (by omega)) (hd c hc) ?_
    refine Gb_if_eq (tgt := 22) dX6_isSewn_15 (by decide) (fun h15 => ?_) (fun h15 => ?_)
    · refine G_iconst (v := (nI 0)) dX6_isSewn_22 (by decide) ?_
      refine G_iret dX6_isSewn_23 rfl (by decide) ?_
      exact ⟨congrArg Sum.inl (bI_f h15), rfl⟩
    · refine G_iconst (v := (nI 1)) dX6_isSewn_18 (by decide) ?_
      refine G_goto (tgt := 23) dX6_isSewn_19 (by decide) ?_
      refine G_iret dX6_isSewn_23 rfl (by decide) ?_
      exact ⟨congrArg Sum.inl (bI_t h15), rfl⟩
theorem l_mw {d c : Nat} {dn : Nat → Bool} {g : Nat → Nat} {M : Mem} (hg : hC g (M 2)) (hk : gok g) (hd : ∀ c, c < 4 → M 33 c = bI (dn c)) (hc1 : 1 ≤ c) (hc : c < 4) : ∀ k i : Nat, 4 - i = k → 1 ≤ i → i ≤ 4 → (∀ o, 1 ≤ o → o < i → ¬ (dn o = false ∧ g (8 + o) < g (8 + c) ∧ tchd g o c)) → G l α D cA uX6_mustWait none (d + 3) (fun r M1 => r = .inl (bI (dec (mw g dn c))) ∧ M1 = M) 2 [some (.inr 31), some (.inr 1), some (.inl (nI c)), some (.inl (nI i))] [] M := by
  intro k
  induction k using Nat.strongRecOn with
  | _ k ih => ?_
  intro i hk2 hi1 hi hno
  have hr := (hk.2.2.2.2.1 c hc).2
  refine G_iload_n dX6_mustWait_2 rfl rfl ?_
  refine G_iconst (v := (nI 3)) dX6_mustWait_3 (by decide) ?_
  refine Gn_icmp_gt (tgt := 45) dX6_mustWait_4 (by decide) (by omega) (by omega) (fun h4 => ?_) (fun h4 => ?_)
  · refine G_iconst (v := (nI 0)) dX6_mustWait_45 (by decide) ?_
    refine G_iret dX6_mustWait_46 rfl (by decide) ?_
    exact ⟨congrArg Sum.inl (bI_df (fun ⟨o, h1, h2, h3⟩ => hno o h1 (by omega) h3)), rfl⟩
  · refine G_aload_n dX6_mustWait_7 rfl rfl ?_
    refine G_iload_n dX6_mustWait_8 rfl rfl ?_
    refine G_callVi (ν := uX6_isSewn) (As := [.inl (nI i)]) dX6_mustWait_9 nX6_51 kX6_isSewn rfl rfl rfl rfl rfl (Nat.le_of_ble_eq_true rfl) (c_isSewn hd (by omega)) ?_
    rintro _ M8 ⟨rfl, e9⟩
    subst M8
    refine Gb_if_ne (tgt := 39) dX6_mustWait_12 (by decide) (fun h12 => ?_) (fun h12 => ?_)
    · refine G_iinc (v := (nI (i + 1))) (L2 := [some (.inr 31), some (.inr 1), some (.inl (nI c)), some (.inl (nI (i + 1)))]) dX6_mustWait_39 rfl (nI_1 _) rfl ?_
      refine G_goto (tgt := 2) dX6_mustWait_42 (by decide) ?_
      exact ih (4 - (i + 1)) (by omega) (i + 1) rfl (by omega) (by omega) (fun o ho ho2 z => by
        rcases (show o < i ∨ o = i by omega) with y | y
        · exact hno o ho y z
        · subst y
          exact absurd z.1 (by rw [h12]; decide))
    · refine G_aload_n dX6_mustWait_15 rfl rfl ?_
      refine G_iload_n dX6_mustWait_16 rfl rfl ?_
      refine G_callVi (ν := uX0_rankOf) (As := [.inl (nI i)]) dX6_mustWait_17 nX6_63 kX0_rankOf rfl rfl rfl rfl rfl (Nat.le_of_ble_eq_true rfl) (c_rankOf (o := 1) (v := 2) rfl rfl (by omega) (by omega)) ?_
      rintro _ M8 ⟨rfl, e9⟩
      subst M8
      rw [hg _ (by omega)]
      have hri := (hk.2.2.2.2.1 i (by omega)).2
      refine G_aload_n dX6_mustWait_20 rfl rfl ?_
      refine G_iload_n dX6_mustWait_21 rfl rfl ?_
      refine G_callVi (ν := uX0_rankOf) (As := [.inl (nI c)]) dX6_mustWait_22 nX6_63 kX0_rankOf rfl rfl rfl rfl rfl (Nat.le_of_ble_eq_true rfl) (c_rankOf (o := 1) (v := 2) rfl rfl (by omega) (by omega)) ?_
      rintro _ M8 ⟨rfl, e9⟩
      subst M8
      rw [hg _ (by omega)]
      have hrc := (hk.2.2.2.2.1 c (by omega)).2
      refine Gn_icmp_ge (tgt := 39) dX6_mustWait_25 (by decide) (by omega) (by omega) (fun h25 => ?_) (fun h25 => ?_)
      · refine G_iinc (v := (nI (i + 1))) (L2 := [some (.inr 31), some (.inr 1), some (.inl (nI c)), some (.inl (nI (i + 1)))]) dX6_mustWait_39 rfl (nI_1 _) rfl ?_
        refine G_goto (tgt := 2) dX6_mustWait_42 (by decide) ?_
        exact ih (4 - (i + 1)) (by omega) (i + 1) rfl (by omega) (by omega) (fun o ho ho2 z => by
          rcases (show o < i ∨ o = i by omega) with y | y
          · exact hno o ho y z
          · subst y
            exact absurd z.2.1 (by omega))
      · refine G_aload_n dX6_mustWait_28 rfl rfl ?_
        refine G_iload_n dX6_mustWait_29 rfl rfl ?_
        refine G_iload_n dX6_mustWait_30 rfl rfl ?_
        refine G_callVi (ν := uX0_touch) (As := [.inl (nI i), .inl (nI c)]) dX6_mustWait_31 nX6_68 kX0_touch rfl rfl rfl rfl rfl (Nat.le_of_ble_eq_true rfl) (c_touch (o := 1) (v := 2) rfl rfl hg (gok_9 hk) (by omega) (by omega)) ?_
        rintro _ M8 ⟨rfl, e9⟩
        subst M8
        refine Gb_if_eq (tgt := 39) dX6_mustWait_34 (by decide) (fun h34 => ?_) (fun h34 => ?_)
        · refine G_iinc (v := (nI (i + 1))) (L2 := [some (.inr 31), some (.inr 1), some (.inl (nI c)), some (.inl (nI (i + 1)))]) dX6_mustWait_39 rfl (nI_1 _) rfl ?_
          refine G_goto (tgt := 2) dX6_mustWait_42 (by decide) ?_
          exact ih (4 - (i + 1)) (by omega) (i + 1) rfl (by omega) (by omega) (fun o ho ho2 z => by
            rcases (show o < i ∨ o = i by omega) with y | y
            · exact hno o ho y z
            · subst y
              exact dec_niff.mp h34 z.2.2)
        · refine G_iconst (v := (nI 1)) dX6_mustWait_37 (by decide) ?_
          refine G_iret dX6_mustWait_38 rfl (by decide) ?_
          exact ⟨congrArg Sum.inl (bI_dt ⟨i, hi1, by omega, h12, h25, dec_iff.mp h34⟩), rfl⟩
theorem c_mw {d c : Nat} {dn : Nat → Bool} {g : Nat → Nat} {M : Mem} (hg : hC g (M 2)) (hk : gok g) (hd : ∀ c, c < 4 → M 33 c = bI (dn c)) (hc1 : 1 ≤ c) (hc : c < 4) : Call l α D cA uX6_mustWait (d + 3) [.inr 31, .inr 1, .inl (nI c)] M (fun r M1 => r = .inl (bI (dec (mw g dn c))) ∧ M1 = M) := by
  refine Call.of kX6_mustWait.1 (Nat.le_of_ble_eq_true rfl) ?_
  refine G_iconst (v := (nI 1)) dX6_mustWait_0 (by decide) ?_
  refine G_istore_n (L2 := [some (.inr 31), some (.inr 1), some (.inl (nI c)), some (.inl (nI 1))]) dX6_mustWait_1 rfl (Nat.le_of_ble_eq_true rfl) rfl ?_
  exact l_mw hg hk hd hc1 hc _ 1 rfl (Nat.le_refl _) (by omega) (fun o h1 h2 => absurd h1 (by omega))
theorem l_next {d : Nat} {dn : Nat → Bool} {g : Nat → Nat} {M : Mem} (hg : hC g (M 2)) (hk : gok g) (hM : MPg g M) (hd : ∀ c, c < 4 → M 33 c = bI (dn c)) : ∀ (k f : Nat) (x4 : Option AV), labN g - f = k → f ≤ labN g → (∀ j, j < f → ¬ (!dn (col g j) && !dec (mw g dn (col g j))) = true) → G l α D cA uX6_nextColour none (d + 4) (fun r M1 => r = .inl (oI ((nxt g dn).map (col g))) ∧ M1 = M) 2 [some (.inr 31), some (.inr 1), some (.inr 8), some (.inl (nI f)), x4] [] M := by
  intro k
  induction k using Nat.strongRecOn with
  | _ k ih => ?_
  intro f x4 hk2 hf hno
  have hn48 := (labF_inv g).1
  refine G_iload_n dX6_nextColour_2 rfl rfl ?_
  refine G_aload_n dX6_nextColour_3 rfl rfl ?_
  refine G_callVi (ν := uX1_size) (As := []) dX6_nextColour_4 nX6_42 kX1_size rfl rfl rfl rfl rfl (Nat.le_of_ble_eq_true rfl) (c_msize (x := nI (labN g)) hM.2.1) ?_
  rintro _ M8 ⟨rfl, e9⟩
  subst M8
  refine Gn_icmp_ge (tgt := 45) dX6_nextColour_7 (by decide) (by omega) (by omega) (fun h7 => ?_) (fun h7 => ?_)
  · refine G_bipush (v := ((-9))) dX6_nextColour_45 (by decide) ?_
    refine G_iret dX6_nextColour_47 rfl rfl ?_
    exact ⟨by rw [nxt, fnd_no (fun j hj => hno j (by omega))]; rfl, rfl⟩
  · refine G_aload_n dX6_nextColour_10 rfl rfl ?_
    refine G_iload_n dX6_nextColour_11 rfl rfl ?_
    refine G_callVi (ν := uX1_colourOf) (As := [.inl (nI f)]) dX6_nextColour_12 nX6_47 kX1_colourOf rfl rfl rfl rfl rfl (Nat.le_of_ble_eq_true rfl) (c_colourOf (x := nI (col g f)) (by omega) (hM.2.2.2 f (by omega)).1) ?_
    rintro _ M8 ⟨rfl, e9⟩
    subst M8
    have hcf := col_in hk (show f < labN g by omega)
    refine G_istore (L2 := [some (.inr 31), some (.inr 1), some (.inr 8), some (.inl (nI f)), some (.inl (nI (col g f)))]) dX6_nextColour_15 (Nat.le_of_ble_eq_true rfl) rfl ?_
    refine G_aload_n dX6_nextColour_17 rfl rfl ?_
    refine G_iload dX6_nextColour_18 rfl ?_
    refine G_callVi (ν := uX6_isSewn) (As := [.inl (nI (col g f))]) dX6_nextColour_20 nX6_51 kX6_isSewn rfl rfl rfl rfl rfl (Nat.le_of_ble_eq_true rfl) (c_isSewn hd (by omega)) ?_
    rintro _ M8 ⟨rfl, e9⟩
    subst M8
    refine Gb_if_ne (tgt := 39) dX6_nextColour_23 (by decide) (fun h23 => ?_) (fun h23 => ?_)
    · refine G_iinc (v := (nI (f + 1))) (L2 := [some (.inr 31), some (.inr 1), some (.inr 8), some (.inl (nI (f + 1))), some (.inl (nI (col g f)))]) dX6_nextColour_39 rfl (nI_1 _) rfl ?_
      refine G_goto (tgt := 2) dX6_nextColour_42 (by decide) ?_
      exact ih (labN g - (f + 1)) (by omega) (f + 1) _ rfl (by omega) (fun j hj => by
        rcases (show j < f ∨ j = f by omega) with y | y
        · exact hno j y
        · subst y
          rw [h23]
          simp)
    · refine G_aload_n dX6_nextColour_26 rfl rfl ?_
      refine G_aload_n dX6_nextColour_27 rfl rfl ?_
      refine G_iload dX6_nextColour_28 rfl ?_
      refine G_callVi (ν := uX6_mustWait) (As := [.inr 1, .inl (nI (col g f))]) dX6_nextColour_30 nX6_55 kX6_mustWait rfl rfl rfl rfl rfl (Nat.le_of_ble_eq_true rfl) (c_mw hg hk hd hcf.1 (by omega)) ?_
      rintro _ M8 ⟨rfl, e9⟩
      subst M8
      refine Gb_if_ne (tgt := 39) dX6_nextColour_33 (by decide) (fun h33 => ?_) (fun h33 => ?_)
      · refine G_iinc (v := (nI (f + 1))) (L2 := [some (.inr 31), some (.inr 1), some (.inr 8), some (.inl (nI (f + 1))), some (.inl (nI (col g f)))]) dX6_nextColour_39 rfl (nI_1 _) rfl ?_
        refine G_goto (tgt := 2) dX6_nextColour_42 (by decide) ?_
        exact ih (labN g - (f + 1)) (by omega) (f + 1) _ rfl (by omega) (fun j hj => by
          rcases (show j < f ∨ j = f by omega) with y | y
          · exact hno j y
          · subst y
            rw [h33]
            simp)
      · refine G_iload dX6_nextColour_36 rfl ?_
        refine G_iret dX6_nextColour_38 rfl rfl ?_
        exact ⟨by rw [nxt, fnd_is (by omega) (by rw [h23, h33]; rfl) hno]; rfl, rfl⟩
theorem c_next {d : Nat} {dn : Nat → Bool} {g : Nat → Nat} {M : Mem} (hg : hC g (M 2)) (hk : gok g) (hM : MPg g M) (hd : ∀ c, c < 4 → M 33 c = bI (dn c)) : Call l α D cA uX6_nextColour (d + 4) [.inr 31, .inr 1, .inr 8] M (fun r M1 => r = .inl (oI ((nxt g dn).map (col g))) ∧ M1 = M) := by
  refine Call.of kX6_nextColour.1 (Nat.le_of_ble_eq_true rfl) ?_
  refine G_iconst (v := (nI 0)) dX6_nextColour_0 (by decide) ?_
  refine G_istore_n (L2 := [some (.inr 31), some (.inr 1), some (.inr 8), some (.inl (nI 0)), none]) dX6_nextColour_1 rfl (Nat.le_of_ble_eq_true rfl) rfl ?_
  exact l_next hg hk hM hd _ 0 none rfl (Nat.zero_le _) (fun j hj => absurd hj (Nat.not_lt_zero _))
theorem l_addF {d c z : Nat} {sq : Nat → Nat} {g : Nat → Nat} {M : Mem} (hk : gok g) (hM : MPg g M) (hb : z + fb_ct (fun f => decide (col g f = c)) (labN g) ≤ 10) (hc : c < 4) : ∀ (k f : Nat) (t : Nat × (Nat → Nat)) (M1 : Mem), labN g - f = k → f ≤ labN g → addL (col g) c f (z, sq) = t → FRO M M1 → M1 31 2 = nI t.1 → (∀ i, i < t.1 → M1 32 i = nI (t.2 i)) → M1 31 3 = M 31 3 → M1 33 = M 33 → G l α D cA uX6_addFields none (d + 2) (fun _ M1 => FRO M M1 ∧ M1 31 2 = nI (addL (col g) c (labN g) (z, sq)).1 ∧ (∀ i, i < (addL (col g) c (labN g) (z, sq)).1 → M1 32 i = nI ((addL (col g) c (labN g) (z, sq)).2 i)) ∧ M1 31 3 = M 31 3 ∧ M1 33 = M 33) 2 [some (.inr 31), some (.inr 8), some (.inl (nI c)), some (.inl (nI f))] [] M1 := by
  intro k
  induction k using Nat.strongRecOn with
  | _ k ih => ?_
  intro f t M1 hk2 hf ht hF h1 h2 h3 h4
  have hn48 := (labF_inv g).1
  have hM1 := MPg_O hM hF
  refine G_iload_n dX6_addFields_2 rfl rfl ?_
  refine G_aload_n dX6_addFields_3 rfl rfl ?_
  refine G_callVi (ν := uX1_size) (As := []) dX6_addFields_4 nX6_42 kX1_size rfl rfl rfl rfl rfl (Nat.le_of_ble_eq_true rfl) (c_msize (x := nI (labN g)) hM1.2.1) ?_
  rintro _ M8 ⟨rfl, e9⟩
  subst M8
  refine Gn_icmp_ge (tgt := 47) dX6_addFields_7 (by decide) (by omega) (by omega) (fun h7 => ?_) (fun h7 => ?_)
  · refine G_vret dX6_addFields_47 rfl ?_
    have e : f = labN g := by omega
    subst e
    rw [ht]
    exact ⟨hF, h1, h2, h3, h4⟩
  · refine G_aload_n dX6_addFields_10 rfl rfl ?_
    refine G_iload_n dX6_addFields_11 rfl rfl ?_
    refine G_callVi (ν := uX1_colourOf) (As := [.inl (nI f)]) dX6_addFields_12 nX6_47 kX1_colourOf rfl rfl rfl rfl rfl (Nat.le_of_ble_eq_true rfl) (c_colourOf (x := nI (col g f)) (by omega) (hM1.2.2.2 f (by omega)).1) ?_
    rintro _ M8 ⟨rfl, e9⟩
    subst M8
    have hcf := col_in hk (show f < labN g by omega)
    refine G_iload_n dX6_addFields_15 rfl rfl ?_
    have hct := addL_ct (co := col g) (c := c) (s := (z, sq)) f
    rw [ht] at hct
    have hct : t.1 = z + fb_ct (fun f => decide (col g f = c)) f := hct
    refine Gn_icmp_ne (tgt := 41) dX6_addFields_16 (by decide) (by omega) (by omega) (fun h16 => ?_) (fun h16 => ?_)
    · refine G_iinc (v := (nI (f + 1))) (L2 := [some (.inr 31), some (.inr 8), some (.inl (nI c)), some (.inl (nI (f + 1)))]) dX6_addFields_41 rfl (nI_1 _) rfl ?_
      refine G_goto (tgt := 2) dX6_addFields_44 (by decide) ?_
      exact ih (labN g - (f + 1)) (by omega) (f + 1) t M1 rfl (by omega) (by rw [addL, if_neg h16, ht]) hF h1 h2 h3 h4
    · have hmono := fb_ct_mono (fun f => decide (col g f = c)) (show f + 1 ≤ labN g by omega)
      rw [fb_ct_succ, if_pos (decide_eq_true h16)] at hmono
      have en : addL (col g) c (f + 1) (z, sq) = (t.1 + 1, updN t.2 t.1 f) := by rw [addL, if_pos h16, ht]
      refine G_aload_n dX6_addFields_19 rfl rfl ?_
      refine G_getR (j := 32) dX6_addFields_20 fX6_9 rfl rfl ?_
      refine G_aload_n dX6_addFields_23 rfl rfl ?_
      refine G_getI (v := (nI (t.1))) dX6_addFields_24 fX6_23 rfl rfl h1 ?_
      refine G_iload_n dX6_addFields_27 rfl rfl ?_
      refine G_callSv (ν := uX9_put) (As := [.inr 32, .inl (nI (t.1)), .inl (nI f)]) dX6_addFields_28 nX6_72 kX9_put rfl rfl rfl (Nat.le_of_ble_eq_true rfl) (c_puts (o := 32) (n := 10) rfl (by decide) (by omega)) ?_
      rintro _ M8 e9
      subst M8
      refine G_aload_n dX6_addFields_31 rfl rfl ?_
      refine G_dup dX6_addFields_32 ?_
      refine G_getI (v := (nI (t.1))) dX6_addFields_33 fX6_23 rfl rfl (by simp [ms]; exact h1) ?_
      refine G_iconst (v := (nI 1)) dX6_addFields_36 (by decide) ?_
      refine G_iadd (v := (nI ((t.1) + 1))) dX6_addFields_37 (nI_add _ _) ?_
      refine G_put dX6_addFields_38 pX6_23 rfl rfl ?_
      refine G_iinc (v := (nI (f + 1))) (L2 := [some (.inr 31), some (.inr 8), some (.inl (nI c)), some (.inl (nI (f + 1)))]) dX6_addFields_41 rfl (nI_1 _) rfl ?_
      refine G_goto (tgt := 2) dX6_addFields_44 (by decide) ?_
      refine ih (labN g - (f + 1)) (by omega) (f + 1) _ _ rfl (by omega) en (fun q hq => ?_) (by simp [ms, upd]) (fun i hi => ?_) (by simp [ms, upd, h3]) (by simp [ms]; exact h4)
      · simp [ms, show q ≠ 31 by omega, show q ≠ 32 by omega]
        exact hF q hq
      · have hi : i < t.1 + 1 := hi
        by_cases e : i = t.1
        · subst e
          simp [ms, upd, updN_k]
        · simp [ms, upd, e, updN_n e]
          exact h2 i (by omega)
theorem c_addF {d c z : Nat} {sq : Nat → Nat} {g : Nat → Nat} {M : Mem} (hk : gok g) (hM : MPg g M) (hb : z + fb_ct (fun f => decide (col g f = c)) (labN g) ≤ 10) (hc : c < 4) (h1 : M 31 2 = nI z) (h2 : ∀ i, i < z → M 32 i = nI (sq i)) : Call l α D cA uX6_addFields (d + 2) [.inr 31, .inr 8, .inl (nI c)] M (fun _ M1 => FRO M M1 ∧ M1 31 2 = nI (addL (col g) c (labN g) (z, sq)).1 ∧ (∀ i, i < (addL (col g) c (labN g) (z, sq)).1 → M1 32 i = nI ((addL (col g) c (labN g) (z, sq)).2 i)) ∧ M1 31 3 = M 31 3 ∧ M1 33 = M 33) := by
  refine Call.of kX6_addFields.1 (Nat.le_of_ble_eq_true rfl) ?_
  refine G_iconst (v := (nI 0)) dX6_addFields_0 (by decide) ?_
  refine G_istore_n (L2 := [some (.inr 31), some (.inr 8), some (.inl (nI c)), some (.inl (nI 0))]) dX6_addFields_1 rfl (Nat.le_of_ble_eq_true rfl) rfl ?_
  exact l_addF hk hM hb hc _ 0 (z, sq) M rfl (Nat.zero_le _) rfl (fun _ _ => rfl) h1 h2 rfl rfl
theorem l_olay {d : Nat} {g : Nat → Nat} {M : Mem} (hg : hC g (M 2)) (hk : gok g) (hM : MPg g M) (hn : labN g ≤ 10) : ∀ (k i : Nat) (M1 : Mem) (x4 : Option AV), 3 - i = k → i ≤ 3 → FRO M M1 → OR (ordS g i) M1 → G l α D cA uX6_lay none (d + 5) (fun _ M1 => FRO M M1 ∧ OR (ordS g 3) M1) 19 [some (.inr 31), some (.inr 1), some (.inr 8), some (.inl (nI i)), x4] [] M1 := by
  intro k
  induction k using Nat.strongRecOn with
  | _ k ih => ?_
  intro i M1 x4 hk2 hi hF hR
  have hM1 := MPg_O hM hF
  have hg1 : hC g (M1 2) := by rw [hF 2 (by decide)]; exact hg
  have es : ordS g (i + 1) = ordT g (ordS g i) := rfl
  refine G_iload_n dX6_lay_19 rfl rfl ?_
  refine G_iconst (v := (nI 3)) dX6_lay_20 (by decide) ?_
  refine Gn_icmp_ge (tgt := 74) dX6_lay_21 (by decide) (by omega) (by omega) (fun h21 => ?_) (fun h21 => ?_)
  · refine G_vret dX6_lay_74 rfl ?_
    have e : i = 3 := by omega
    subst e
    exact ⟨hF, hR⟩
  · refine G_aload_n dX6_lay_24 rfl rfl ?_
    refine G_aload_n dX6_lay_25 rfl rfl ?_
    refine G_aload_n dX6_lay_26 rfl rfl ?_
    refine G_callVi (ν := uX6_nextColour) (As := [.inr 1, .inr 8]) dX6_lay_27 nX6_30 kX6_nextColour rfl rfl rfl rfl rfl (Nat.le_of_ble_eq_true rfl) (c_next hg1 hk hM1 hR.2.2.2) ?_
    rintro _ M8 ⟨rfl, e9⟩
    subst M8
    rcases hz : nxt g (ordS g i).2.2.1 with _ | f
    · rw [show oI ((none : Option Nat).map (col g)) = -9 from rfl]
      refine G_istore (L2 := [some (.inr 31), some (.inr 1), some (.inr 8), some (.inl (nI i)), some (.inl (-9))]) dX6_lay_30 (Nat.le_of_ble_eq_true rfl) rfl ?_
      refine G_iload dX6_lay_32 rfl ?_
      refine G_if_le (tgt := 68) dX6_lay_34 (by decide) (fun h34 => ?_) (fun h34 => ?_)
      · refine G_iinc (v := (nI (i + 1))) (L2 := [some (.inr 31), some (.inr 1), some (.inr 8), some (.inl (nI (i + 1))), some (.inl (-9))]) dX6_lay_68 rfl (nI_1 _) rfl ?_
        refine G_goto (tgt := 19) dX6_lay_71 (by decide) ?_
        exact ih (3 - (i + 1)) (by omega) (i + 1) M1 _ rfl (by omega) hF (by rw [es, ordT, hz]; exact hR)
      · exact absurd (by decide) h34
    · have hcf := col_in hk (fnd_some hz).1
      have hns := (fnd_some hz).2
      simp only [Bool.and_eq_true, Bool.not_eq_true'] at hns
      have hbb : (ordS g i).1 + fb_ct (fun k => decide (col g k = col g f)) (labN g) ≤ 10 := by
        rw [ord_inv i, ← fb_ct_or]
        · exact Nat.le_trans (fb_ct_le _ _) hn
        · rintro k _ ⟨h1, h2⟩
          rw [of_decide_eq_true h2, hns.1] at h1
          cases h1
      rw [show oI ((some f).map (col g)) = nI (col g f) from rfl]
      refine G_istore (L2 := [some (.inr 31), some (.inr 1), some (.inr 8), some (.inl (nI i)), some (.inl (nI (col g f)))]) dX6_lay_30 (Nat.le_of_ble_eq_true rfl) rfl ?_
      refine G_iload dX6_lay_32 rfl ?_
      refine Gn_if_le (tgt := 68) dX6_lay_34 (by decide) (by omega) (fun h34 => ?_) (fun h34 => ?_)
      · omega
      · refine G_iload dX6_lay_37 rfl ?_
        refine G_iconst (v := (nI 3)) dX6_lay_39 (by decide) ?_
        refine Gn_icmp_gt (tgt := 68) dX6_lay_40 (by decide) (by omega) (by omega) (fun h40 => ?_) (fun h40 => ?_)
        · omega
        · refine G_aload_n dX6_lay_43 rfl rfl ?_
          refine G_aload_n dX6_lay_44 rfl rfl ?_
          refine G_iload dX6_lay_45 rfl ?_
          refine G_callVv (ν := uX6_addFields) (As := [.inr 8, .inl (nI (col g f))]) dX6_lay_47 nX6_34 kX6_addFields rfl rfl rfl rfl rfl (Nat.le_of_ble_eq_true rfl) (c_addF (z := (ordS g i).1) (sq := (ordS g i).2.1) hk hM1 hbb (by omega) hR.1 hR.2.2.1) ?_
          rintro _ M8 ⟨hF8, k1, k2, k3, k4⟩
          refine G_aload_n dX6_lay_50 rfl rfl ?_
          refine G_getR (j := 33) dX6_lay_51 fX6_15 rfl rfl ?_
          refine G_iload dX6_lay_54 rfl ?_
          refine G_iconst (v := (nI 1)) dX6_lay_56 (by decide) ?_
          refine G_zast (k := col g f) (v := (nI 1)) dX6_lay_57 rfl (vp_in_nI (by omega) (by omega)) (nI_clamp (by omega)) (by decide) ?_
          refine G_aload_n dX6_lay_58 rfl rfl ?_
          refine G_dup dX6_lay_59 ?_
          refine G_getI (v := (nI ((ordS g i).2.2.2))) dX6_lay_60 fX6_27 rfl rfl (by simp [ms]; rw [k3]; exact hR.2.1) ?_
          refine G_iconst (v := (nI 1)) dX6_lay_63 (by decide) ?_
          refine G_iadd (v := (nI (((ordS g i).2.2.2) + 1))) dX6_lay_64 (nI_add _ _) ?_
          refine G_put dX6_lay_65 pX6_27 rfl rfl ?_
          refine G_iinc (v := (nI (i + 1))) (L2 := [some (.inr 31), some (.inr 1), some (.inr 8), some (.inl (nI (i + 1))), some (.inl (nI (col g f)))]) dX6_lay_68 rfl (nI_1 _) rfl ?_
          refine G_goto (tgt := 19) dX6_lay_71 (by decide) ?_
          rw [ordT, hz] at es
          refine ih (3 - (i + 1)) (by omega) (i + 1) _ _ rfl (by omega) (fun q hq => ?_) ?_
          · simp [ms, show q ≠ 31 by omega, show q ≠ 33 by omega]
            rw [hF8 q hq]
            exact hF q hq
          · rw [es]
            refine ⟨by simp [ms, upd]; exact k1, by simp [ms, upd], fun j hj => by simp [ms]; exact k2 j hj, fun c hc => ?_⟩
            by_cases e : c = col g f
            · subst e
              simp [ms, upd]
              rfl
            · simp [ms, upd, e]
              rw [k4]
              exact hR.2.2.2 c hc
theorem c_olay {d : Nat} {g : Nat → Nat} {M : Mem} (hg : hC g (M 2)) (hk : gok g) (hM : MPg g M) (hn : labN g ≤ 10) : Call l α D cA uX6_lay (d + 5) [.inr 31, .inr 1, .inr 8] M (fun _ M1 => FRO M M1 ∧ OR (ordS g 3) M1) := by
  refine Call.of kX6_lay.1 (Nat.le_of_ble_eq_true rfl) ?_
  refine G_aload_n dX6_lay_0 rfl rfl ?_
  refine G_getR (j := 33) dX6_lay_1 fX6_15 rfl rfl ?_
  refine G_callSv (ν := uX9_wipe) (As := [.inr 33]) dX6_lay_4 nX6_19 kX9_wipe rfl rfl rfl (Nat.le_of_ble_eq_true rfl) (c_wipe (o := 33) (n := 4) rfl (by decide)) ?_
  rintro _ M8 e9
  subst M8
  refine G_aload_n dX6_lay_7 rfl rfl ?_
  refine G_iconst (v := (nI 0)) dX6_lay_8 (by decide) ?_
  refine G_put dX6_lay_9 pX6_23 rfl rfl ?_
  refine G_aload_n dX6_lay_12 rfl rfl ?_
  refine G_iconst (v := (nI 0)) dX6_lay_13 (by decide) ?_
  refine G_put dX6_lay_14 pX6_27 rfl rfl ?_
  refine G_iconst (v := (nI 0)) dX6_lay_17 (by decide) ?_
  refine G_istore_n (L2 := [some (.inr 31), some (.inr 1), some (.inr 8), some (.inl (nI 0)), none]) dX6_lay_18 rfl (Nat.le_of_ble_eq_true rfl) rfl ?_
  refine l_olay hg hk hM hn _ 0 _ none rfl (Nat.zero_le _) (fun q hq => by simp [ms, mo, show q ≠ 31 by omega, show q ≠ 33 by omega]) ⟨by simp [ms, upd, ordS], by simp [ms, upd, ordS], fun i hi => absurd hi (Nat.not_lt_zero _), fun c hc => ?_⟩
  simp [ms, mo, fil, hc]
  rfl
theorem c_ochanges {d : Nat} {s : OS} {M : Mem} (hR : OR s M) (h1 : 1 ≤ s.2.2.2) : Call l α D cA uX6_changes d [.inr 31] M (fun r M1 => r = .inl (nI (s.2.2.2 - 1)) ∧ M1 = M) := by
  refine Call.of kX6_changes.1 (Nat.le_of_ble_eq_true rfl) ?_
  refine G_aload_n dX6_changes_0 rfl rfl ?_
  refine G_getI (v := (nI (s.2.2.2))) dX6_changes_1 fX6_27 rfl rfl hR.2.1 ?_
  refine G_iconst (v := (nI 1)) dX6_changes_4 (by decide) ?_
  refine G_isub (v := (nI ((s.2.2.2) - 1))) dX6_changes_5 (pk_sub (by omega)) ?_
  refine G_iret dX6_changes_6 rfl rfl ?_
  exact ⟨rfl, rfl⟩
theorem c_ofield {d k : Nat} {s : OS} {M : Mem} (hR : OR s M) (hs : s.1 ≤ 10) (hk : k < 2 ^ 31) : Call l α D cA uX6_fieldAt (d + 1) [.inr 31, .inl (nI k)] M (fun r M1 => r = .inl (oI (if k < s.1 then some (s.2.1 k) else none)) ∧ M1 = M) := by
  refine Call.of kX6_fieldAt.1 (Nat.le_of_ble_eq_true rfl) ?_
  refine G_iload_n dX6_fieldAt_0 rfl rfl ?_
  refine G_aload_n dX6_fieldAt_1 rfl rfl ?_
  refine G_getI (v := (nI (s.1))) dX6_fieldAt_2 fX6_23 rfl rfl hR.1 ?_
  refine Gn_icmp_ge (tgt := 19) dX6_fieldAt_5 (by decide) (by omega) (by omega) (fun h5 => ?_) (fun h5 => ?_)
  · refine G_bipush (v := ((-9))) dX6_fieldAt_19 (by decide) ?_
    refine G_iret dX6_fieldAt_21 rfl rfl ?_
    exact ⟨by rw [if_neg (by omega)]; rfl, rfl⟩
  · refine G_aload_n dX6_fieldAt_8 rfl rfl ?_
    refine G_getR (j := 32) dX6_fieldAt_9 fX6_9 rfl rfl ?_
    refine G_iload_n dX6_fieldAt_12 rfl rfl ?_
    refine G_callSi (ν := uX9_at) (As := [.inr 32, .inl (nI k)]) dX6_fieldAt_13 nX6_38 kX9_at rfl rfl rfl (Nat.le_of_ble_eq_true rfl) (c_at (o := 32) (n := 10) rfl (by decide) (by omega)) ?_
    rintro _ M8 ⟨rfl, e9⟩
    subst M8
    rw [hR.2.2.1 k (by omega)]
    refine G_goto (tgt := 21) dX6_fieldAt_16 (by decide) ?_
    refine G_iret dX6_fieldAt_21 rfl rfl ?_
    exact ⟨by rw [if_pos (by omega)]; rfl, rfl⟩
end P21
