/-! String.length and charAt of constants; Text (3, letters 4) -/
section P22
variable {l : Launch} {α : Nat → Nat} {D : va_G} {cA : Nat → ClassId}
def wl (w : Nat) : Nat := slen.getD w 0
def wch (w j : Nat) : Nat := ((sbyt.getD w []).getD j 0).toNatClampNeg
theorem wl_4 : ∀ w, w < 5 → wl w ≤ 4 ∧ 3 ≤ wl w := by decide
theorem wch_ok : ∀ w, w < 5 → ∀ j, j < 4 → wch w j < 256 ∧ (((sbyt.getD w []).getD j 0 &&& nI 255).toUInt32 % 65536).toInt32 = nI (wch w j) := by decide +kernel
theorem char_nar {q : Nat} (h : q < 65536) : narrow .char (.int (nI q)) = .int (nI q) := (pk_charN h).1
theorem i2c_nI {q : Nat} (h : q < 65536) : ((nI q).toUInt32 % 65536).toInt32 = nI q := by
  rw [pk_char, pk_tn (by omega), Nat.mod_eq_of_lt h]
theorem ms_ms {M : Mem} {o k : Nat} {a b : Int32} : ms (ms M o k a) o k b = ms M o k b := by
  funext q
  by_cases h : q = o
  · subst h
    simp only [ms, if_true]
    funext j
    by_cases e : j = k
    · subst e; simp [upd]
    · simp [upd, e]
  · simp [ms, h]
/-- a character's kind -/
def kc (c : Nat) : Nat := if 97 ≤ c ∧ c ≤ 122 then 2 else if 48 ≤ c ∧ c ≤ 57 then 3 else if c = 32 then 1 else if c = 59 then 4 else 5
def knd (n : Nat) (t : Nat → Nat) (i : Nat) : Nat := if i < n then kc (t i) else 0
theorem kc_in (c : Nat) : 1 ≤ kc c ∧ kc c ≤ 5 := by
  unfold kc
  repeat (first | split | omega)
theorem knd_le {n : Nat} {t : Nat → Nat} {i : Nat} : knd n t i ≤ 5 := by
  unfold knd
  split
  · exact (kc_in _).2
  · omega
theorem knd_0 {n : Nat} {t : Nat → Nat} {i : Nat} : knd n t i = 0 ↔ n ≤ i := by
  unfold knd
  split
  · have := (kc_in (t i)).1
    omega
  · omega
theorem kc_3 {c : Nat} (h : kc c = 3) : 48 ≤ c ∧ c ≤ 57 := by
  unfold kc at h
  repeat (first | omega | split at h)
def runF (P : Nat → Bool) : Nat → Nat → Nat
  | 0, i => i
  | k + 1, i => if P i = true then runF P k (i + 1) else i
def run (P : Nat → Bool) (n i : Nat) : Nat := runF P (n - i) i
theorem run_go {P : Nat → Bool} {n i : Nat} (hi : i < n) (h : P i = true) : run P n i = run P n (i + 1) := by
  unfold run
  rw [show n - i = (n - (i + 1)) + 1 by omega, runF, if_pos h]
theorem run_st {P : Nat → Bool} {n i : Nat} (h : ¬ (i < n ∧ P i = true)) : run P n i = i := by
  unfold run
  cases hk : n - i with
  | zero => rfl
  | succ k => rw [runF, if_neg (fun z => h ⟨by omega, z⟩)]
theorem run_in {P : Nat → Bool} {n : Nat} : ∀ k i, n - i = k → i ≤ n → i ≤ run P n i ∧ run P n i ≤ n ∧ ∀ x, i ≤ x → x < run P n i → P x = true := by
  intro k
  induction k with
  | zero =>
    intro i hk hi
    rw [run_st (by omega)]
    exact ⟨Nat.le_refl _, hi, fun x h1 h2 => absurd h2 (by omega)⟩
  | succ k ih =>
    intro i hk hi
    by_cases h : P i = true
    · rw [run_go (by omega) h]
      obtain ⟨a, b, c⟩ := ih (i + 1) (by omega) (by omega)
      refine ⟨by omega, b, fun x h1 h2 => ?_⟩
      by_cases e : x = i
      · rw [e]; exact h
      · exact c x (by omega) h2
    · rw [run_st (fun z => h z.2)]
      exact ⟨Nat.le_refl _, hi, fun x h1 h2 => absurd h2 (by omega)⟩
/-- the token behind place i: its start, its end, its kind -/
def tkS (n : Nat) (t : Nat → Nat) (i : Nat) : Nat := run (fun x => knd n t x == 1) n i
def tkK (n : Nat) (t : Nat → Nat) (i : Nat) : Nat := knd n t (tkS n t i)
def tkP (n : Nat) (t : Nat → Nat) (k x : Nat) : Bool := decide ((k = 2 ∨ k = 3) ∧ knd n t x = k)
def tkE (n : Nat) (t : Nat → Nat) (i : Nat) : Nat := run (tkP n t (tkK n t i)) n (if tkK n t i = 0 then tkS n t i else tkS n t i + 1)
/-- the token from s to e of kind k is one of the text -/
def TF (n : Nat) (t : Nat → Nat) (s e k : Nat) : Prop := s ≤ e ∧ e ≤ n ∧ k = knd n t s ∧ (k = 3 → ∀ x, s ≤ x → x < e → 48 ≤ t x ∧ t x ≤ 57) ∧ (k ≠ 0 → s < e)
theorem tok_TF {n : Nat} {t : Nat → Nat} {i : Nat} (hi : i ≤ n) : TF n t (tkS n t i) (tkE n t i) (tkK n t i) := by
  obtain ⟨a1, a2, -⟩ := run_in (P := fun x => knd n t x == 1) (n - i) i rfl hi
  have hs : tkS n t i ≤ n := a2
  have hk : tkK n t i = knd n t (tkS n t i) := rfl
  have h0 : (if tkK n t i = 0 then tkS n t i else tkS n t i + 1) ≤ n := by
    split
    · exact hs
    · rename_i z
      rw [hk, knd_0] at z
      omega
  obtain ⟨b1, b2, b3⟩ := run_in (P := tkP n t (tkK n t i)) _ _ rfl h0
  have he : tkE n t i = run (tkP n t (tkK n t i)) n (if tkK n t i = 0 then tkS n t i else tkS n t i + 1) := rfl
  rw [← he] at b1 b2 b3
  refine ⟨?_, b2, hk, fun h3 x hx1 hx2 => ?_, fun hz => ?_⟩
  · split at b1 <;> omega
  · have e3 : knd n t x = 3 := by
      rw [if_neg (by rw [h3]; decide)] at b3
      by_cases y : x = tkS n t i
      · rw [y, ← hk, h3]
      · have := b3 x (by omega) hx2
        have := of_decide_eq_true this
        omega
    unfold knd at e3
    rw [if_pos (by omega)] at e3
    exact kc_3 e3
  · rw [if_neg hz] at b1
    omega
/-- what the text's cells hold -/
def TX (n : Nat) (t : Nat → Nat) (M : Mem) : Prop := M 3 1 = nI n ∧ n ≤ 120 ∧ ∀ i, i < n → M 4 i = nI (t i) ∧ t i ≤ 255
def TKM (s e k : Nat) (M : Mem) : Prop := M 3 3 = nI s ∧ M 3 4 = nI e ∧ M 3 2 = nI k
theorem c_coder {d i : Nat} {M : Mem} (hi : i < 5) : Call l α D cA uJ0_coder_7d493 d [.inr (1000 + i)] M (fun r M1 => r = .inl (nI 0) ∧ M1 = M) := by
  refine Call.of kJ0_coder_7d493.1 (Nat.le_of_ble_eq_true rfl) ?_
  refine G_sCmp dJ0_coder_7d493_0 rfl ?_
  refine Gn_if_eq (tgt := 13) dJ0_coder_7d493_3 (by decide) (by decide) (fun h => absurd h (by decide)) (fun _ => ?_)
  refine G_aload_n dJ0_coder_7d493_6 rfl rfl ?_
  refine G_sCod dJ0_coder_7d493_7 rfl hi ?_
  refine G_goto (tgt := 14) dJ0_coder_7d493_10 (by decide) ?_
  refine G_iret dJ0_coder_7d493_14 rfl rfl ?_
  exact ⟨rfl, rfl⟩
theorem c_latin {d i : Nat} {M : Mem} (hi : i < 5) : Call l α D cA uJ0_isLatin1_aae02 d [.inr (1000 + i)] M (fun r M1 => r = .inl (nI 1) ∧ M1 = M) := by
  refine Call.of kJ0_isLatin1_aae02.1 (Nat.le_of_ble_eq_true rfl) ?_
  refine G_sCmp dJ0_isLatin1_aae02_0 rfl ?_
  refine Gn_if_eq (tgt := 17) dJ0_isLatin1_aae02_3 (by decide) (by decide) (fun h => absurd h (by decide)) (fun _ => ?_)
  refine G_aload_n dJ0_isLatin1_aae02_6 rfl rfl ?_
  refine G_sCod dJ0_isLatin1_aae02_7 rfl hi ?_
  refine Gn_if_ne (tgt := 17) dJ0_isLatin1_aae02_10 (by decide) (by decide) (fun h => absurd rfl h) (fun _ => ?_)
  refine G_iconst (v := nI 1) dJ0_isLatin1_aae02_13 (by decide) ?_
  refine G_goto (tgt := 18) dJ0_isLatin1_aae02_14 (by decide) ?_
  refine G_iret dJ0_isLatin1_aae02_18 rfl (by decide) ?_
  exact ⟨rfl, rfl⟩
theorem c_slen {d i : Nat} {M : Mem} (hi : i < 5) : Call l α D cA uJ0_length_8abf5 (d + 1) [.inr (1000 + i)] M (fun r M1 => r = .inl (nI (wl i)) ∧ M1 = M) := by
  refine Call.of kJ0_length_8abf5.1 (Nat.le_of_ble_eq_true rfl) ?_
  refine G_aload_n dJ0_length_8abf5_0 rfl rfl ?_
  refine G_sVal dJ0_length_8abf5_1 rfl hi ?_
  refine G_sLen (v := nI (wl i)) dJ0_length_8abf5_4 hi rfl ?_
  refine G_aload_n dJ0_length_8abf5_5 rfl rfl ?_
  refine G_callK (ν := uJ0_coder_7d493) (As := []) dJ0_length_8abf5_6 gJ0_335 kJ0_coder_7d493 hi rfl rfl rfl rfl (Nat.le_of_ble_eq_true rfl) (c_coder hi) ?_
  rintro _ M9 ⟨rfl, e9⟩
  subst M9
  refine G_ishr (v := nI (wl i)) dJ0_length_8abf5_9 (by rw [show nI 0 = (0 : Int32) from rfl]; exact sc_shr0 (by have := (wl_4 i hi).1; omega)) ?_
  refine G_iret dJ0_length_8abf5_10 rfl rfl ?_
  exact ⟨rfl, rfl⟩
theorem c_schk {d i n : Nat} {M : Mem} (hi : i < n) (hn : n < 2 ^ 31) : Call l α D cA uJ0_checkIndex_df160 (d + 1) [.inl (nI i), .inl (nI n)] M (fun _ M1 => M1 = M) := by
  refine Call.of kJ0_checkIndex_df160.1 (Nat.le_of_ble_eq_true rfl) ?_
  refine G_iload_n dJ0_checkIndex_df160_0 rfl rfl ?_
  refine G_iload_n dJ0_checkIndex_df160_1 rfl rfl ?_
  refine G_chk dJ0_checkIndex_df160_2 dJ0_checkIndex_df160_5 rfl (nI_pos (by omega)) (nI_lt hi hn) (Nat.le_of_ble_eq_true rfl) ?_
  refine G_pop dJ0_checkIndex_df160_8 ?_
  refine G_vret dJ0_checkIndex_df160_9 rfl ?_
  exact rfl
theorem c_lchar {d i j : Nat} {M : Mem} (hi : i < 5) (hj : j < wl i) : Call l α D cA uJ1_charAt_3b067 (d + 2) [.inr (1010 + i), .inl (nI j)] M (fun r M1 => r = .inl (nI (wch i j)) ∧ M1 = M) := by
  refine Call.of kJ1_charAt_3b067.1 (Nat.le_of_ble_eq_true rfl) ?_
  have h4 := (wl_4 i hi).1
  have hw := wch_ok i hi j (by omega)
  refine G_iload_n dJ1_charAt_3b067_0 rfl rfl ?_
  refine G_aload_n dJ1_charAt_3b067_1 rfl rfl ?_
  refine G_sLen (v := nI (wl i)) dJ1_charAt_3b067_2 hi rfl ?_
  refine G_callSv (ν := uJ0_checkIndex_df160) (As := [.inl (nI j), .inl (nI (wl i))]) dJ1_charAt_3b067_3 nJ1_9 kJ0_checkIndex_df160 rfl rfl rfl (Nat.le_of_ble_eq_true rfl) (c_schk hj (by omega)) ?_
  rintro _ M9 e9
  subst M9
  refine G_aload_n dJ1_charAt_3b067_6 rfl rfl ?_
  refine G_iload_n dJ1_charAt_3b067_7 rfl rfl ?_
  refine G_sByt dJ1_charAt_3b067_8 hi hj ?_
  refine G_sipush (v := nI 255) dJ1_charAt_3b067_9 (by decide) ?_
  refine G_iand dJ1_charAt_3b067_12 rfl ?_
  refine G_i2c (v := nI (wch i j)) dJ1_charAt_3b067_13 hw.2 ?_
  refine G_iret dJ1_charAt_3b067_14 rfl (char_nar (by omega)) ?_
  exact ⟨rfl, rfl⟩
theorem c_schar {d i j : Nat} {M : Mem} (hi : i < 5) (hj : j < wl i) : Call l α D cA uJ0_charAt_5068e (d + 3) [.inr (1000 + i), .inl (nI j)] M (fun r M1 => r = .inl (nI (wch i j)) ∧ M1 = M) := by
  refine Call.of kJ0_charAt_5068e.1 (Nat.le_of_ble_eq_true rfl) ?_
  have h4 := (wl_4 i hi).1
  have hw := wch_ok i hi j (by omega)
  refine G_aload_n dJ0_charAt_5068e_0 rfl rfl ?_
  refine G_callK (ν := uJ0_isLatin1_aae02) (As := []) dJ0_charAt_5068e_1 gJ0_492 kJ0_isLatin1_aae02 hi rfl rfl rfl rfl (Nat.le_of_ble_eq_true rfl) (c_latin hi) ?_
  rintro _ M9 ⟨rfl, e9⟩
  subst M9
  refine Gn_if_eq (tgt := 16) dJ0_charAt_5068e_4 (by decide) (by decide) (fun h => absurd h (by decide)) (fun _ => ?_)
  refine G_aload_n dJ0_charAt_5068e_7 rfl rfl ?_
  refine G_sVal dJ0_charAt_5068e_8 rfl hi ?_
  refine G_iload_n dJ0_charAt_5068e_11 rfl rfl ?_
  refine G_callSi (ν := uJ1_charAt_3b067) (As := [.inr (1010 + i), .inl (nI j)]) dJ0_charAt_5068e_12 nJ0_495 kJ1_charAt_3b067 rfl rfl rfl (Nat.le_of_ble_eq_true rfl) (c_lchar hi hj) ?_
  rintro _ M9 ⟨rfl, e9⟩
  subst M9
  refine G_iret dJ0_charAt_5068e_15 rfl (char_nar (by omega)) ?_
  exact ⟨rfl, rfl⟩
theorem c_kindAt {d n i : Nat} {t : Nat → Nat} {M : Mem} (hT : TX n t M) (hi : i < 2 ^ 31) : Call l α D cA uX7_kindAt d [.inr 3, .inl (nI i)] M (fun r M1 => r = .inl (nI (knd n t i)) ∧ M1 = M) := by
  refine Call.of kX7_kindAt.1 (Nat.le_of_ble_eq_true rfl) ?_
  have hn := hT.2.1
  refine G_iload_n dX7_kindAt_0 rfl rfl ?_
  refine Gn_if_lt (tgt := 21) dX7_kindAt_1 (by decide) (by omega) (fun h1 => ?_) (fun h1 => ?_)
  · omega
  · refine G_iload_n dX7_kindAt_4 rfl rfl ?_
    refine G_aload_n dX7_kindAt_5 rfl rfl ?_
    refine G_getI (v := (nI n)) dX7_kindAt_6 fX7_15 rfl rfl hT.1 ?_
    refine Gn_icmp_ge (tgt := 21) dX7_kindAt_9 (by decide) (by omega) (by omega) (fun h9 => ?_) (fun h9 => ?_)
    · refine G_iconst (v := (nI 0)) dX7_kindAt_21 (by decide) ?_
      refine G_iret dX7_kindAt_22 rfl rfl ?_
      exact ⟨by rw [show knd n t i = 0 from knd_0.mpr (by omega)], rfl⟩
    · refine G_iload_n dX7_kindAt_12 rfl rfl ?_
      refine G_aload_n dX7_kindAt_13 rfl rfl ?_
      refine G_getR (j := 4) dX7_kindAt_14 fX7_9 rfl rfl ?_
      refine G_alen (v := (nI 120)) dX7_kindAt_17 rfl (by decide) rfl ?_
      refine Gn_icmp_lt (tgt := 23) dX7_kindAt_18 (by decide) (by omega) (by omega) (fun h18 => ?_) (fun h18 => ?_)
      · have hin : i < n := by omega
        have h255 := (hT.2.2 i hin).2
        have ek : knd n t i = kc (t i) := if_pos hin
        refine G_aload_n dX7_kindAt_23 rfl rfl ?_
        refine G_getR (j := 4) dX7_kindAt_24 fX7_9 rfl rfl ?_
        refine G_iload_n dX7_kindAt_27 rfl rfl ?_
        refine G_cald (k := i) (v := (nI (t i))) dX7_kindAt_28 rfl (vp_in_nI (by omega) (by omega)) (nI_clamp (by omega)) (hT.2.2 i hin).1 ?_
        refine G_istore_n (L2 := [some (.inr 3), some (.inl (nI i)), some (.inl (nI (t i)))]) dX7_kindAt_29 rfl (Nat.le_of_ble_eq_true rfl) rfl ?_
        refine G_iload_n dX7_kindAt_30 rfl rfl ?_
        refine G_bipush (v := (nI 97)) dX7_kindAt_31 (by decide) ?_
        refine Gn_icmp_lt (tgt := 44) dX7_kindAt_33 (by decide) (by omega) (by omega) (fun h33 => ?_) (fun h33 => ?_)
        · refine G_iload_n dX7_kindAt_44 rfl rfl ?_
          refine G_bipush (v := (nI 48)) dX7_kindAt_45 (by decide) ?_
          refine Gn_icmp_lt (tgt := 58) dX7_kindAt_47 (by decide) (by omega) (by omega) (fun h47 => ?_) (fun h47 => ?_)
          · refine G_iload_n dX7_kindAt_58 rfl rfl ?_
            refine G_bipush (v := (nI 32)) dX7_kindAt_59 (by decide) ?_
            refine Gn_icmp_ne (tgt := 66) dX7_kindAt_61 (by decide) (by omega) (by omega) (fun h61 => ?_) (fun h61 => ?_)
            · refine G_iload_n dX7_kindAt_66 rfl rfl ?_
              refine G_bipush (v := (nI 59)) dX7_kindAt_67 (by decide) ?_
              refine Gn_icmp_ne (tgt := 76) dX7_kindAt_69 (by decide) (by omega) (by omega) (fun h69 => ?_) (fun h69 => ?_)
              · refine G_iconst (v := (nI 5)) dX7_kindAt_76 (by decide) ?_
                refine G_iret dX7_kindAt_77 rfl rfl ?_
                exact ⟨by rw [ek, kc, if_neg (by omega), if_neg (by omega), if_neg (by omega), if_neg (by omega)], rfl⟩
              · refine G_iconst (v := (nI 4)) dX7_kindAt_72 (by decide) ?_
                refine G_goto (tgt := 77) dX7_kindAt_73 (by decide) ?_
                refine G_iret dX7_kindAt_77 rfl rfl ?_
                exact ⟨by rw [ek, kc, if_neg (by omega), if_neg (by omega), if_neg (by omega), if_pos (by omega)], rfl⟩
            · refine G_iconst (v := (nI 1)) dX7_kindAt_64 (by decide) ?_
              refine G_iret dX7_kindAt_65 rfl rfl ?_
              exact ⟨by rw [ek, kc, if_neg (by omega), if_neg (by omega), if_pos (by omega)], rfl⟩
          · refine G_iload_n dX7_kindAt_50 rfl rfl ?_
            refine G_bipush (v := (nI 57)) dX7_kindAt_51 (by decide) ?_
            refine Gn_icmp_gt (tgt := 58) dX7_kindAt_53 (by decide) (by omega) (by omega) (fun h53 => ?_) (fun h53 => ?_)
            · refine G_iload_n dX7_kindAt_58 rfl rfl ?_
              refine G_bipush (v := (nI 32)) dX7_kindAt_59 (by decide) ?_
              refine Gn_icmp_ne (tgt := 66) dX7_kindAt_61 (by decide) (by omega) (by omega) (fun h61 => ?_) (fun h61 => ?_)
              · refine G_iload_n dX7_kindAt_66 rfl rfl ?_
                refine G_bipush (v := (nI 59)) dX7_kindAt_67 (by decide) ?_
                refine Gn_icmp_ne (tgt := 76) dX7_kindAt_69 (by decide) (by omega) (by omega) (fun h69 => ?_) (fun h69 => ?_)
                · refine G_iconst (v := (nI 5)) dX7_kindAt_76 (by decide) ?_
                  refine G_iret dX7_kindAt_77 rfl rfl ?_
                  exact ⟨by rw [ek, kc, if_neg (by omega), if_neg (by omega), if_neg (by omega), if_neg (by omega)], rfl⟩
                · refine G_iconst (v := (nI 4)) dX7_kindAt_72 (by decide) ?_
                  refine G_goto (tgt := 77) dX7_kindAt_73 (by decide) ?_
                  refine G_iret dX7_kindAt_77 rfl rfl ?_
                  exact ⟨by rw [ek, kc, if_neg (by omega), if_neg (by omega), if_neg (by omega), if_pos (by omega)], rfl⟩
              · refine G_iconst (v := (nI 1)) dX7_kindAt_64 (by decide) ?_
                refine G_iret dX7_kindAt_65 rfl rfl ?_
                exact ⟨by rw [ek, kc, if_neg (by omega), if_neg (by omega), if_pos (by omega)], rfl⟩
            · refine G_iconst (v := (nI 3)) dX7_kindAt_56 (by decide) ?_
              refine G_iret dX7_kindAt_57 rfl rfl ?_
              exact ⟨by rw [ek, kc, if_neg (by omega), if_pos (by omega)], rfl⟩
        · refine G_iload_n dX7_kindAt_36 rfl rfl ?_
          refine G_bipush (v := (nI 122)) dX7_kindAt_37 (by decide) ?_
          refine Gn_icmp_gt (tgt := 44) dX7_kindAt_39 (by decide) (by omega) (by omega) (fun h39 => ?_) (fun h39 => ?_)
          · refine G_iload_n dX7_kindAt_44 rfl rfl ?_
            refine G_bipush (v := (nI 48)) dX7_kindAt_45 (by decide) ?_
            refine Gn_icmp_lt (tgt := 58) dX7_kindAt_47 (by decide) (by omega) (by omega) (fun h47 => ?_) (fun h47 => ?_)
            · refine G_iload_n dX7_kindAt_58 rfl rfl ?_
              refine G_bipush (v := (nI 32)) dX7_kindAt_59 (by decide) ?_
              refine Gn_icmp_ne (tgt := 66) dX7_kindAt_61 (by decide) (by omega) (by omega) (fun h61 => ?_) (fun h61 => ?_)
              · refine G_iload_n dX7_kindAt_66 rfl rfl ?_
                refine G_bipush (v := (nI 59)) dX7_kindAt_67 (by decide) ?_
                refine Gn_icmp_ne (tgt := 76) dX7_kindAt_69 (by decide) (by omega) (by omega) (fun h69 => ?_) (fun h69 => ?_)
                · refine G_iconst (v := (nI 5)) dX7_kindAt_76 (by decide) ?_
                  refine G_iret dX7_kindAt_77 rfl rfl ?_
                  exact ⟨by rw [ek, kc, if_neg (by omega), if_neg (by omega), if_neg (by omega), if_neg (by omega)], rfl⟩
                · refine G_iconst (v := (nI 4)) dX7_kindAt_72 (by decide) ?_
                  refine G_goto (tgt := 77) dX7_kindAt_73 (by decide) ?_
                  refine G_iret dX7_kindAt_77 rfl rfl ?_
                  exact ⟨by rw [ek, kc, if_neg (by omega), if_neg (by omega), if_neg (by omega), if_pos (by omega)], rfl⟩
              · refine G_iconst (v := (nI 1)) dX7_kindAt_64 (by decide) ?_
                refine G_iret dX7_kindAt_65 rfl rfl ?_
                exact ⟨by rw [ek, kc, if_neg (by omega), if_neg (by omega), if_pos (by omega)], rfl⟩
            · refine G_iload_n dX7_kindAt_50 rfl rfl ?_
              refine G_bipush (v := (nI 57)) dX7_kindAt_51 (by decide) ?_
              refine Gn_icmp_gt (tgt := 58) dX7_kindAt_53 (by decide) (by omega) (by omega) (fun h53 => ?_) (fun h53 => ?_)
              · refine G_iload_n dX7_kindAt_58 rfl rfl ?_
                refine G_bipush (v := (nI 32)) dX7_kindAt_59 (by decide) ?_
                refine Gn_icmp_ne (tgt := 66) dX7_kindAt_61 (by decide) (by omega) (by omega) (fun h61 => ?_) (fun h61 => ?_)
                · refine G_iload_n dX7_kindAt_66 rfl rfl ?_
                  refine G_bipush (v := (nI 59)) dX7_kindAt_67 (by decide) ?_
                  refine Gn_icmp_ne (tgt := 76) dX7_kindAt_69 (by decide) (by omega) (by omega) (fun h69 => ?_) (fun h69 => ?_)
                  · refine G_iconst (v := (nI 5)) dX7_kindAt_76 (by decide) ?_
                    refine G_iret dX7_kindAt_77 rfl rfl ?_
                    exact ⟨by rw [ek, kc, if_neg (by omega), if_neg (by omega), if_neg (by omega), if_neg (by omega)], rfl⟩
                  · refine G_iconst (v := (nI 4)) dX7_kindAt_72 (by decide) ?_
                    refine G_goto (tgt := 77) dX7_kindAt_73 (by decide) ?_
                    refine G_iret dX7_kindAt_77 rfl rfl ?_
                    exact ⟨by rw [ek, kc, if_neg (by omega), if_neg (by omega), if_neg (by omega), if_pos (by omega)], rfl⟩
                · refine G_iconst (v := (nI 1)) dX7_kindAt_64 (by decide) ?_
                  refine G_iret dX7_kindAt_65 rfl rfl ?_
                  exact ⟨by rw [ek, kc, if_neg (by omega), if_neg (by omega), if_pos (by omega)], rfl⟩
              · refine G_iconst (v := (nI 3)) dX7_kindAt_56 (by decide) ?_
                refine G_iret dX7_kindAt_57 rfl rfl ?_
                exact ⟨by rw [ek, kc, if_neg (by omega), if_pos (by omega)], rfl⟩
          · refine G_iconst (v := (nI 2)) dX7_kindAt_42 (by decide) ?_
            refine G_iret dX7_kindAt_43 rfl rfl ?_
            exact ⟨by rw [ek, kc, if_pos (by omega)], rfl⟩
      · omega
theorem c_tlength {d : Nat} {x : Int32} {M : Mem} (hM : M 3 1 = x) : Call l α D cA uX7_length d [.inr 3] M (fun r M1 => r = .inl x ∧ M1 = M) := by
  refine Call.of kX7_length.1 (Nat.le_of_ble_eq_true rfl) ?_
  refine G_aload_n dX7_length_0 rfl rfl ?_
  refine G_getI (v := x) dX7_length_1 fX7_15 rfl rfl hM ?_
  refine G_iret dX7_length_4 rfl rfl ?_
  exact ⟨rfl, rfl⟩
theorem c_ttokenStart {d : Nat} {x : Int32} {M : Mem} (hM : M 3 3 = x) : Call l α D cA uX7_tokenStart d [.inr 3] M (fun r M1 => r = .inl x ∧ M1 = M) := by
  refine Call.of kX7_tokenStart.1 (Nat.le_of_ble_eq_true rfl) ?_
  refine G_aload_n dX7_tokenStart_0 rfl rfl ?_
  refine G_getI (v := x) dX7_tokenStart_1 fX7_25 rfl rfl hM ?_
  refine G_iret dX7_tokenStart_4 rfl rfl ?_
  exact ⟨rfl, rfl⟩
theorem c_tdrop {d : Nat} {M : Mem} : Call l α D cA uX7_drop d [.inr 3] M (fun _ M1 => M1 = ms M 3 1 (nI 0)) := by
  refine Call.of kX7_drop.1 (Nat.le_of_ble_eq_true rfl) ?_
  refine G_aload_n dX7_drop_0 rfl rfl ?_
  refine G_iconst (v := (nI 0)) dX7_drop_1 (by decide) ?_
  refine G_put dX7_drop_2 pX7_15 rfl rfl ?_
  refine G_vret dX7_drop_5 rfl ?_
  exact rfl
theorem c_append {d n c : Nat} {t : Nat → Nat} {M : Mem} (hT : TX n t M) (hn : n < 120) (hc : c ≤ 255) : Call l α D cA uX7_append d [.inr 3, .inl (nI c)] M (fun _ M1 => (∀ q, q ≠ 3 → q ≠ 4 → M1 q = M q) ∧ TX (n + 1) (updN t n c) M1) := by
  refine Call.of kX7_append.1 (Nat.le_of_ble_eq_true rfl) ?_
  refine G_aload_n dX7_append_0 rfl rfl ?_
  refine G_getI (v := (nI n)) dX7_append_1 fX7_15 rfl rfl hT.1 ?_
  refine Gn_if_lt (tgt := 39) dX7_append_4 (by decide) (by omega) (fun h4 => ?_) (fun h4 => ?_)
  · omega
  · refine G_aload_n dX7_append_7 rfl rfl ?_
    refine G_getI (v := (nI n)) dX7_append_8 fX7_15 rfl rfl hT.1 ?_
    refine G_aload_n dX7_append_11 rfl rfl ?_
    refine G_getR (j := 4) dX7_append_12 fX7_9 rfl rfl ?_
    refine G_alen (v := (nI 120)) dX7_append_15 rfl (by decide) rfl ?_
    refine Gn_icmp_ge (tgt := 39) dX7_append_16 (by decide) (by omega) (by omega) (fun h16 => ?_) (fun h16 => ?_)
    · omega
    · refine G_aload_n dX7_append_19 rfl rfl ?_
      refine G_getR (j := 4) dX7_append_20 fX7_9 rfl rfl ?_
      refine G_aload_n dX7_append_23 rfl rfl ?_
      refine G_getI (v := (nI n)) dX7_append_24 fX7_15 rfl rfl hT.1 ?_
      refine G_iload_n dX7_append_27 rfl rfl ?_
      refine G_cast (k := n) (v := (nI c)) dX7_append_28 rfl (vp_in_nI (by omega) (by omega)) (nI_clamp (by omega)) (by rw [vp_nar_char, fb_char (by omega)]) ?_
      refine G_aload_n dX7_append_29 rfl rfl ?_
      refine G_dup dX7_append_30 ?_
      refine G_getI (v := (nI n)) dX7_append_31 fX7_15 rfl rfl (by simp [ms]; exact hT.1) ?_
      refine G_iconst (v := (nI 1)) dX7_append_34 (by decide) ?_
      refine G_iadd (v := (nI (n + 1))) dX7_append_35 (nI_add _ _) ?_
      refine G_put dX7_append_36 pX7_15 rfl rfl ?_
      refine G_vret dX7_append_39 rfl ?_
      refine ⟨fun q h1 h2 => by simp [ms, h1, h2], by simp [ms, upd], by omega, fun i hi => ?_⟩
      by_cases e : i = n
      · subst e
        simp [ms, upd, updN_k]
        omega
      · simp [ms, upd, e, updN_n e]
        exact hT.2.2 i (by omega)
theorem TX_3 {n : Nat} {t : Nat → Nat} {M M1 : Mem} (h : TX n t M) (h4 : M1 4 = M 4) (h1 : M1 3 1 = M 3 1) : TX n t M1 := ⟨by rw [h1]; exact h.1, h.2.1, fun i hi => by rw [h4]; exact h.2.2 i hi⟩
theorem l_tokE {d n s k e : Nat} {t : Nat → Nat} {M : Mem} (hT : TX n t M) (hk5 : k ≤ 5) : ∀ r j : Nat, n - j = r → j ≤ n → run (tkP n t k) n j = e → G l α D cA uX7_toNextToken none (d + 1) (fun _ M1 => M1 = ms (ms (ms M 3 3 (nI s)) 3 2 (nI k)) 3 4 (nI e)) 80 [some (.inr 3)] [] (ms (ms (ms M 3 3 (nI s)) 3 2 (nI k)) 3 4 (nI j)) := by
  intro r
  induction r using Nat.strongRecOn with
  | _ r ih => ?_
  intro j hr hj he
  have hn := hT.2.1
  refine G_aload_n dX7_toNextToken_80 rfl rfl ?_
  refine G_getI (v := (nI j)) dX7_toNextToken_81 fX7_19 rfl rfl (by simp [ms, upd]) ?_
  refine G_aload_n dX7_toNextToken_84 rfl rfl ?_
  refine G_getI (v := (nI n)) dX7_toNextToken_85 fX7_15 rfl rfl (by simp [ms, upd]; exact hT.1) ?_
  refine Gn_icmp_ge (tgt := 135) dX7_toNextToken_88 (by decide) (by omega) (by omega) (fun h88 => ?_) (fun h88 => ?_)
  · refine G_vret dX7_toNextToken_135 rfl ?_
    have e1 : e = j := by rw [← he]; exact run_st (fun z => absurd z.1 (by omega))
    rw [e1]
  · refine G_aload_n dX7_toNextToken_91 rfl rfl ?_
    refine G_getI (v := (nI k)) dX7_toNextToken_92 fX7_32 rfl rfl (by simp [ms, upd]) ?_
    refine G_iconst (v := (nI 2)) dX7_toNextToken_95 (by decide) ?_
    refine Gn_icmp_eq (tgt := 107) dX7_toNextToken_96 (by decide) (by omega) (by omega) (fun h96 => ?_) (fun h96 => ?_)
    · refine G_aload_n dX7_toNextToken_107 rfl rfl ?_
      refine G_aload_n dX7_toNextToken_108 rfl rfl ?_
      refine G_getI (v := (nI j)) dX7_toNextToken_109 fX7_19 rfl rfl (by simp [ms, upd]) ?_
      refine G_callVi (ν := uX7_kindAt) (As := [.inl (nI j)]) dX7_toNextToken_112 nX7_28 kX7_kindAt rfl rfl rfl rfl rfl (Nat.le_of_ble_eq_true rfl) (c_kindAt (n := n) (t := t) (TX_3 hT (by simp [ms]) (by simp [ms, upd])) (by omega)) ?_
      rintro _ M8 ⟨rfl, e9⟩
      subst M8
      have hk5 := knd_le (n := n) (t := t) (i := j)
      refine G_aload_n dX7_toNextToken_115 rfl rfl ?_
      refine G_getI (v := (nI k)) dX7_toNextToken_116 fX7_32 rfl rfl (by simp [ms, upd]) ?_
      refine Gn_icmp_ne (tgt := 135) dX7_toNextToken_119 (by decide) (by omega) (by omega) (fun h119 => ?_) (fun h119 => ?_)
      · refine G_vret dX7_toNextToken_135 rfl ?_
        have e1 : e = j := by rw [← he]; exact run_st (fun z => h119 (of_decide_eq_true z.2).2)
        rw [e1]
      · refine G_aload_n dX7_toNextToken_122 rfl rfl ?_
        refine G_dup dX7_toNextToken_123 ?_
        refine G_getI (v := (nI j)) dX7_toNextToken_124 fX7_19 rfl rfl (by simp [ms, upd]) ?_
        refine G_iconst (v := (nI 1)) dX7_toNextToken_127 (by decide) ?_
        refine G_iadd (v := (nI (j + 1))) dX7_toNextToken_128 (nI_add _ _) ?_
        refine G_put dX7_toNextToken_129 pX7_19 rfl rfl ?_
        refine G_goto (tgt := 80) dX7_toNextToken_132 (by decide) ?_
        rw [ms_ms]
        exact ih (n - (j + 1)) (by omega) (j + 1) rfl (by omega) (by rw [← run_go (by omega) (decide_eq_true ⟨by omega, h119⟩)]; exact he)
    · refine G_aload_n dX7_toNextToken_99 rfl rfl ?_
      refine G_getI (v := (nI k)) dX7_toNextToken_100 fX7_32 rfl rfl (by simp [ms, upd]) ?_
      refine G_iconst (v := (nI 3)) dX7_toNextToken_103 (by decide) ?_
      refine Gn_icmp_ne (tgt := 135) dX7_toNextToken_104 (by decide) (by omega) (by omega) (fun h104 => ?_) (fun h104 => ?_)
      · refine G_vret dX7_toNextToken_135 rfl ?_
        have e1 : e = j := by rw [← he]; exact run_st (fun z => by have := (of_decide_eq_true z.2).1; omega)
        rw [e1]
      · refine G_aload_n dX7_toNextToken_107 rfl rfl ?_
        refine G_aload_n dX7_toNextToken_108 rfl rfl ?_
        refine G_getI (v := (nI j)) dX7_toNextToken_109 fX7_19 rfl rfl (by simp [ms, upd]) ?_
        refine G_callVi (ν := uX7_kindAt) (As := [.inl (nI j)]) dX7_toNextToken_112 nX7_28 kX7_kindAt rfl rfl rfl rfl rfl (Nat.le_of_ble_eq_true rfl) (c_kindAt (n := n) (t := t) (TX_3 hT (by simp [ms]) (by simp [ms, upd])) (by omega)) ?_
        rintro _ M8 ⟨rfl, e9⟩
        subst M8
        have hk5 := knd_le (n := n) (t := t) (i := j)
        refine G_aload_n dX7_toNextToken_115 rfl rfl ?_
        refine G_getI (v := (nI k)) dX7_toNextToken_116 fX7_32 rfl rfl (by simp [ms, upd]) ?_
        refine Gn_icmp_ne (tgt := 135) dX7_toNextToken_119 (by decide) (by omega) (by omega) (fun h119 => ?_) (fun h119 => ?_)
        · refine G_vret dX7_toNextToken_135 rfl ?_
          have e1 : e = j := by rw [← he]; exact run_st (fun z => h119 (of_decide_eq_true z.2).2)
          rw [e1]
        · refine G_aload_n dX7_toNextToken_122 rfl rfl ?_
          refine G_dup dX7_toNextToken_123 ?_
          refine G_getI (v := (nI j)) dX7_toNextToken_124 fX7_19 rfl rfl (by simp [ms, upd]) ?_
          refine G_iconst (v := (nI 1)) dX7_toNextToken_127 (by decide) ?_
          refine G_iadd (v := (nI (j + 1))) dX7_toNextToken_128 (nI_add _ _) ?_
          refine G_put dX7_toNextToken_129 pX7_19 rfl rfl ?_
          refine G_goto (tgt := 80) dX7_toNextToken_132 (by decide) ?_
          rw [ms_ms]
          exact ih (n - (j + 1)) (by omega) (j + 1) rfl (by omega) (by rw [← run_go (by omega) (decide_eq_true ⟨by omega, h119⟩)]; exact he)
theorem l_tokS {d n s : Nat} {t : Nat → Nat} {M : Mem} (hT : TX n t M) : ∀ r j : Nat, n - j = r → j ≤ n → run (fun x => knd n t x == 1) n j = s → G l α D cA uX7_toNextToken none (d + 1) (fun _ M1 => M1 = ms (ms (ms M 3 3 (nI s)) 3 2 (nI (knd n t s))) 3 4 (nI (run (tkP n t (knd n t s)) n (if knd n t s = 0 then s else s + 1)))) 8 [some (.inr 3)] [] (ms M 3 3 (nI j)) := by
  intro r
  induction r using Nat.strongRecOn with
  | _ r ih => ?_
  intro j hr hj he
  have hn := hT.2.1
  refine G_aload_n dX7_toNextToken_8 rfl rfl ?_
  refine G_getI (v := (nI j)) dX7_toNextToken_9 fX7_25 rfl rfl (by simp [ms, upd]) ?_
  refine G_aload_n dX7_toNextToken_12 rfl rfl ?_
  refine G_getI (v := (nI n)) dX7_toNextToken_13 fX7_15 rfl rfl (by simp [ms, upd]; exact hT.1) ?_
  refine Gn_icmp_ge (tgt := 44) dX7_toNextToken_16 (by decide) (by omega) (by omega) (fun h16 => ?_) (fun h16 => ?_)
  · have e1 : j = s := by rw [← he]; exact (run_st (fun z => absurd z.1 (by omega))).symm
    subst e1
    refine G_aload_n dX7_toNextToken_44 rfl rfl ?_
    refine G_aload_n dX7_toNextToken_45 rfl rfl ?_
    refine G_aload_n dX7_toNextToken_46 rfl rfl ?_
    refine G_getI (v := (nI j)) dX7_toNextToken_47 fX7_25 rfl rfl (by simp [ms, upd]) ?_
    refine G_callVi (ν := uX7_kindAt) (As := [.inl (nI j)]) dX7_toNextToken_50 nX7_28 kX7_kindAt rfl rfl rfl rfl rfl (Nat.le_of_ble_eq_true rfl) (c_kindAt (n := n) (t := t) (TX_3 hT (by simp [ms]) (by simp [ms, upd])) (by omega)) ?_
    rintro _ M8 ⟨rfl, e9⟩
    subst M8
    have hk5 := knd_le (n := n) (t := t) (i := j)
    refine G_put dX7_toNextToken_53 pX7_32 rfl rfl ?_
    refine G_aload_n dX7_toNextToken_56 rfl rfl ?_
    refine G_aload_n dX7_toNextToken_57 rfl rfl ?_
    refine G_getI (v := (nI (knd n t j))) dX7_toNextToken_58 fX7_32 rfl rfl (by simp [ms, upd]) ?_
    refine Gn_if_ne (tgt := 71) dX7_toNextToken_61 (by decide) (by omega) (fun h61 => ?_) (fun h61 => ?_)
    · refine G_aload_n dX7_toNextToken_71 rfl rfl ?_
      refine G_getI (v := (nI j)) dX7_toNextToken_72 fX7_25 rfl rfl (by simp [ms, upd]) ?_
      refine G_iconst (v := (nI 1)) dX7_toNextToken_75 (by decide) ?_
      refine G_iadd (v := (nI (j + 1))) dX7_toNextToken_76 (nI_add _ _) ?_
      refine G_put dX7_toNextToken_77 pX7_19 rfl rfl ?_
      exact l_tokE hT knd_le _ (j + 1) rfl (by have := knd_0 (n := n) (t := t) (i := j); omega) (by rw [if_neg h61])
    · refine G_aload_n dX7_toNextToken_64 rfl rfl ?_
      refine G_getI (v := (nI j)) dX7_toNextToken_65 fX7_25 rfl rfl (by simp [ms, upd]) ?_
      refine G_goto (tgt := 77) dX7_toNextToken_68 (by decide) ?_
      refine G_put dX7_toNextToken_77 pX7_19 rfl rfl ?_
      exact l_tokE hT knd_le _ j rfl (by have := knd_0 (n := n) (t := t) (i := j); omega) (by rw [if_pos h61])
  · refine G_aload_n dX7_toNextToken_19 rfl rfl ?_
    refine G_aload_n dX7_toNextToken_20 rfl rfl ?_
    refine G_getI (v := (nI j)) dX7_toNextToken_21 fX7_25 rfl rfl (by simp [ms, upd]) ?_
    refine G_callVi (ν := uX7_kindAt) (As := [.inl (nI j)]) dX7_toNextToken_24 nX7_28 kX7_kindAt rfl rfl rfl rfl rfl (Nat.le_of_ble_eq_true rfl) (c_kindAt (n := n) (t := t) (TX_3 hT (by simp [ms]) (by simp [ms, upd])) (by omega)) ?_
    rintro _ M8 ⟨rfl, e9⟩
    subst M8
    have hk5 := knd_le (n := n) (t := t) (i := j)
    refine G_iconst (v := (nI 1)) dX7_toNextToken_27 (by decide) ?_
    refine Gn_icmp_ne (tgt := 44) dX7_toNextToken_28 (by decide) (by omega) (by omega) (fun h28 => ?_) (fun h28 => ?_)
    · have e1 : j = s := by rw [← he]; exact (run_st (fun z => h28 (by have := z.2; simpa using this))).symm
      subst e1
      refine G_aload_n dX7_toNextToken_44 rfl rfl ?_
      refine G_aload_n dX7_toNextToken_45 rfl rfl ?_
      refine G_aload_n dX7_toNextToken_46 rfl rfl ?_
      refine G_getI (v := (nI j)) dX7_toNextToken_47 fX7_25 rfl rfl (by simp [ms, upd]) ?_
      refine G_callVi (ν := uX7_kindAt) (As := [.inl (nI j)]) dX7_toNextToken_50 nX7_28 kX7_kindAt rfl rfl rfl rfl rfl (Nat.le_of_ble_eq_true rfl) (c_kindAt (n := n) (t := t) (TX_3 hT (by simp [ms]) (by simp [ms, upd])) (by omega)) ?_
      rintro _ M8 ⟨rfl, e9⟩
      subst M8
      have hk5 := knd_le (n := n) (t := t) (i := j)
      refine G_put dX7_toNextToken_53 pX7_32 rfl rfl ?_
      refine G_aload_n dX7_toNextToken_56 rfl rfl ?_
      refine G_aload_n dX7_toNextToken_57 rfl rfl ?_
      refine G_getI (v := (nI (knd n t j))) dX7_toNextToken_58 fX7_32 rfl rfl (by simp [ms, upd]) ?_
      refine Gn_if_ne (tgt := 71) dX7_toNextToken_61 (by decide) (by omega) (fun h61 => ?_) (fun h61 => ?_)
      · refine G_aload_n dX7_toNextToken_71 rfl rfl ?_
        refine G_getI (v := (nI j)) dX7_toNextToken_72 fX7_25 rfl rfl (by simp [ms, upd]) ?_
        refine G_iconst (v := (nI 1)) dX7_toNextToken_75 (by decide) ?_
        refine G_iadd (v := (nI (j + 1))) dX7_toNextToken_76 (nI_add _ _) ?_
        refine G_put dX7_toNextToken_77 pX7_19 rfl rfl ?_
        exact l_tokE hT knd_le _ (j + 1) rfl (by have := knd_0 (n := n) (t := t) (i := j); omega) (by rw [if_neg h61])
      · refine G_aload_n dX7_toNextToken_64 rfl rfl ?_
        refine G_getI (v := (nI j)) dX7_toNextToken_65 fX7_25 rfl rfl (by simp [ms, upd]) ?_
        refine G_goto (tgt := 77) dX7_toNextToken_68 (by decide) ?_
        refine G_put dX7_toNextToken_77 pX7_19 rfl rfl ?_
        exact l_tokE hT knd_le _ j rfl (by have := knd_0 (n := n) (t := t) (i := j); omega) (by rw [if_pos h61])
    · refine G_aload_n dX7_toNextToken_31 rfl rfl ?_
      refine G_dup dX7_toNextToken_32 ?_
      refine G_getI (v := (nI j)) dX7_toNextToken_33 fX7_25 rfl rfl (by simp [ms, upd]) ?_
      refine G_iconst (v := (nI 1)) dX7_toNextToken_36 (by decide) ?_
      refine G_iadd (v := (nI (j + 1))) dX7_toNextToken_37 (nI_add _ _) ?_
      refine G_put dX7_toNextToken_38 pX7_25 rfl rfl ?_
      refine G_goto (tgt := 8) dX7_toNextToken_41 (by decide) ?_
      rw [ms_ms]
      exact ih (n - (j + 1)) (by omega) (j + 1) rfl (by omega) (by rw [← run_go (P := fun x => knd n t x == 1) (by omega) (by simp [h28])]; exact he)
theorem c_nextTok {d n i : Nat} {t : Nat → Nat} {M : Mem} (hT : TX n t M) (hM : M 3 4 = nI i) (hi : i ≤ n) : Call l α D cA uX7_toNextToken (d + 1) [.inr 3] M (fun _ M1 => M1 = ms (ms (ms M 3 3 (nI (tkS n t i))) 3 2 (nI (tkK n t i))) 3 4 (nI (tkE n t i))) := by
  refine Call.of kX7_toNextToken.1 (Nat.le_of_ble_eq_true rfl) ?_
  refine G_aload_n dX7_toNextToken_0 rfl rfl ?_
  refine G_aload_n dX7_toNextToken_1 rfl rfl ?_
  refine G_getI (v := (nI i)) dX7_toNextToken_2 fX7_19 rfl rfl hM ?_
  refine G_put dX7_toNextToken_5 pX7_25 rfl rfl ?_
  exact l_tokS hT _ i rfl hi rfl
theorem c_firstTok {d n : Nat} {t : Nat → Nat} {M : Mem} (hT : TX n t M) : Call l α D cA uX7_toFirstToken (d + 2) [.inr 3] M (fun _ M1 => M1 = ms (ms (ms M 3 3 (nI (tkS n t 0))) 3 2 (nI (tkK n t 0))) 3 4 (nI (tkE n t 0))) := by
  refine Call.of kX7_toFirstToken.1 (Nat.le_of_ble_eq_true rfl) ?_
  refine G_aload_n dX7_toFirstToken_0 rfl rfl ?_
  refine G_iconst (v := (nI 0)) dX7_toFirstToken_1 (by decide) ?_
  refine G_put dX7_toFirstToken_2 pX7_19 rfl rfl ?_
  refine G_aload_n dX7_toFirstToken_5 rfl rfl ?_
  refine G_callVv (ν := uX7_toNextToken) (As := []) dX7_toFirstToken_6 nX7_22 kX7_toNextToken rfl rfl rfl rfl rfl (Nat.le_of_ble_eq_true rfl) (c_nextTok (n := n) (t := t) (i := 0) (TX_3 hT (by simp [ms]) (by simp [ms, upd])) (by simp [ms, upd]) (Nat.zero_le _)) ?_
  rintro _ M8 e9
  subst M8
  refine G_vret dX7_toFirstToken_9 rfl ?_
  funext q
  by_cases h : q = 3
  · subst h
    funext j
    simp only [ms, upd, if_true]
    by_cases e : j = 4
    · simp [e]
    · simp [e]
  · simp [ms, h]
theorem c_atEnd {d k : Nat} {M : Mem} (hM : M 3 2 = nI k) (hk : k ≤ 5) : Call l α D cA uX7_isAtEnd d [.inr 3] M (fun r M1 => r = .inl (bI (decide (k = 0))) ∧ M1 = M) := by
  refine Call.of kX7_isAtEnd.1 (Nat.le_of_ble_eq_true rfl) ?_
  refine G_aload_n dX7_isAtEnd_0 rfl rfl ?_
  refine G_getI (v := (nI k)) dX7_isAtEnd_1 fX7_32 rfl rfl hM ?_
  refine Gn_if_ne (tgt := 11) dX7_isAtEnd_4 (by decide) (by omega) (fun h4 => ?_) (fun h4 => ?_)
  · refine G_iconst (v := (nI 0)) dX7_isAtEnd_11 (by decide) ?_
    refine G_iret dX7_isAtEnd_12 rfl (by decide) ?_
    exact ⟨congrArg Sum.inl (bI_f (decide_eq_false h4)), rfl⟩
  · refine G_iconst (v := (nI 1)) dX7_isAtEnd_7 (by decide) ?_
    refine G_goto (tgt := 12) dX7_isAtEnd_8 (by decide) ?_
    refine G_iret dX7_isAtEnd_12 rfl (by decide) ?_
    exact ⟨congrArg Sum.inl (bI_t (decide_eq_true h4)), rfl⟩
theorem c_isSemi {d k : Nat} {M : Mem} (hM : M 3 2 = nI k) (hk : k ≤ 5) : Call l α D cA uX7_isSemicolon d [.inr 3] M (fun r M1 => r = .inl (bI (decide (k = 4))) ∧ M1 = M) := by
  refine Call.of kX7_isSemicolon.1 (Nat.le_of_ble_eq_true rfl) ?_
  refine G_aload_n dX7_isSemicolon_0 rfl rfl ?_
  refine G_getI (v := (nI k)) dX7_isSemicolon_1 fX7_32 rfl rfl hM ?_
  refine G_iconst (v := (nI 4)) dX7_isSemicolon_4 (by decide) ?_
  refine Gn_icmp_ne (tgt := 12) dX7_isSemicolon_5 (by decide) (by omega) (by omega) (fun h5 => ?_) (fun h5 => ?_)
  · refine G_iconst (v := (nI 0)) dX7_isSemicolon_12 (by decide) ?_
    refine G_iret dX7_isSemicolon_13 rfl (by decide) ?_
    exact ⟨congrArg Sum.inl (bI_f (decide_eq_false h5)), rfl⟩
  · refine G_iconst (v := (nI 1)) dX7_isSemicolon_8 (by decide) ?_
    refine G_goto (tgt := 13) dX7_isSemicolon_9 (by decide) ?_
    refine G_iret dX7_isSemicolon_13 rfl (by decide) ?_
    exact ⟨congrArg Sum.inl (bI_t (decide_eq_true h5)), rfl⟩
theorem c_tlet {d n s e k i : Nat} {t : Nat → Nat} {M : Mem} (hT : TX n t M) (hK : TKM s e k M) (hF : TF n t s e k) (hi : s + i < n) : Call l α D cA uX7_tokenLetter d [.inr 3, .inl (nI i)] M (fun r M1 => r = .inl (nI (t (s + i))) ∧ M1 = M) := by
  refine Call.of kX7_tokenLetter.1 (Nat.le_of_ble_eq_true rfl) ?_
  have hn := hT.2.1
  have hc := (hT.2.2 (s + i) hi).2
  refine G_aload_n dX7_tokenLetter_0 rfl rfl ?_
  refine G_getI (v := (nI s)) dX7_tokenLetter_1 fX7_25 rfl rfl hK.1 ?_
  refine G_iload_n dX7_tokenLetter_4 rfl rfl ?_
  refine G_iadd (v := (nI (s + i))) dX7_tokenLetter_5 (nI_add _ _) ?_
  refine G_istore_n (L2 := [some (.inr 3), some (.inl (nI i)), some (.inl (nI (s + i)))]) dX7_tokenLetter_6 rfl (Nat.le_of_ble_eq_true rfl) rfl ?_
  refine G_iload_n dX7_tokenLetter_7 rfl rfl ?_
  refine Gn_if_lt (tgt := 29) dX7_tokenLetter_8 (by decide) (by omega) (fun h8 => ?_) (fun h8 => ?_)
  · omega
  · refine G_iload_n dX7_tokenLetter_11 rfl rfl ?_
    refine G_aload_n dX7_tokenLetter_12 rfl rfl ?_
    refine G_getR (j := 4) dX7_tokenLetter_13 fX7_9 rfl rfl ?_
    refine G_alen (v := (nI 120)) dX7_tokenLetter_16 rfl (by decide) rfl ?_
    refine Gn_icmp_ge (tgt := 29) dX7_tokenLetter_17 (by decide) (by omega) (by omega) (fun h17 => ?_) (fun h17 => ?_)
    · omega
    · refine G_aload_n dX7_tokenLetter_20 rfl rfl ?_
      refine G_getR (j := 4) dX7_tokenLetter_21 fX7_9 rfl rfl ?_
      refine G_iload_n dX7_tokenLetter_24 rfl rfl ?_
      refine G_cald (k := s + i) (v := (nI (t (s + i)))) dX7_tokenLetter_25 rfl (vp_in_nI (by omega) (by omega)) (nI_clamp (by omega)) (hT.2.2 (s + i) hi).1 ?_
      refine G_goto (tgt := 31) dX7_tokenLetter_26 (by decide) ?_
      refine G_iret dX7_tokenLetter_31 rfl (char_nar (by omega)) ?_
      exact ⟨rfl, rfl⟩
theorem c_digit {d n s e k i : Nat} {t : Nat → Nat} {M : Mem} (hT : TX n t M) (hK : TKM s e k M) (hF : TF n t s e k) (hk : k = 3) (hi : s + i < e) : Call l α D cA uX7_digit (d + 1) [.inr 3, .inl (nI i)] M (fun r M1 => r = .inl (nI (t (s + i) - 48)) ∧ M1 = M) := by
  refine Call.of kX7_digit.1 (Nat.le_of_ble_eq_true rfl) ?_
  have h48 := hF.2.2.2.1 hk (s + i) (by omega) hi
  refine G_aload_n dX7_digit_0 rfl rfl ?_
  refine G_iload_n dX7_digit_1 rfl rfl ?_
  refine G_callVi (ν := uX7_tokenLetter) (As := [.inl (nI i)]) dX7_digit_2 nX7_40 kX7_tokenLetter rfl rfl rfl rfl rfl (Nat.le_of_ble_eq_true rfl) (c_tlet hT hK hF (by have := hF.2.1; omega)) ?_
  rintro _ M8 ⟨rfl, e9⟩
  subst M8
  have hc9 := (hT.2.2 (s + i) (by have := hF.2.1; omega)).2
  refine G_bipush (v := (nI 48)) dX7_digit_5 (by decide) ?_
  refine G_isub (v := (nI ((t (s + i)) - 48))) dX7_digit_7 (pk_sub (by omega)) ?_
  refine G_iret dX7_digit_8 rfl rfl ?_
  exact ⟨rfl, rfl⟩
theorem c_tlen {d n s e k : Nat} {t : Nat → Nat} {M : Mem} (hT : TX n t M) (hK : TKM s e k M) (hF : TF n t s e k) : Call l α D cA uX7_tokenLength d [.inr 3] M (fun r M1 => r = .inl (nI (e - s)) ∧ M1 = M) := by
  refine Call.of kX7_tokenLength.1 (Nat.le_of_ble_eq_true rfl) ?_
  have hse := hF.1
  refine G_aload_n dX7_tokenLength_0 rfl rfl ?_
  refine G_getI (v := (nI e)) dX7_tokenLength_1 fX7_19 rfl rfl hK.2.1 ?_
  refine G_aload_n dX7_tokenLength_4 rfl rfl ?_
  refine G_getI (v := (nI s)) dX7_tokenLength_5 fX7_25 rfl rfl hK.1 ?_
  refine G_isub (v := (nI (e - s))) dX7_tokenLength_8 (pk_sub (by omega)) ?_
  refine G_iret dX7_tokenLength_9 rfl rfl ?_
  exact ⟨rfl, rfl⟩
/-- the token is the word w -/
def isW (t : Nat → Nat) (s e k w : Nat) : Prop := k = 2 ∧ e - s = wl w ∧ ∀ j, j < wl w → t (s + j) = wch w j
/-- the token is a run of a to b digits, all of them from lo to hi -/
def isD (t : Nat → Nat) (s e k a b lo hi : Nat) : Prop := k = 3 ∧ (a ≤ e - s ∧ e - s ≤ b) ∧ ∀ j, j < e - s → lo ≤ t (s + j) - 48 ∧ t (s + j) - 48 ≤ hi
theorem l_isWord {d n s e k w : Nat} {t : Nat → Nat} {M : Mem} (hT : TX n t M) (hK : TKM s e k M) (hF : TF n t s e k) (hw : w < 5) (h2 : k = 2) (hl : e - s = wl w) : ∀ r j : Nat, wl w - j = r → j ≤ wl w → (∀ i, i < j → t (s + i) = wch w i) → G l α D cA uX7_isWord none (d + 4) (fun r M1 => r = .inl (bI (dec (isW t s e k w))) ∧ M1 = M) 28 [some (.inr 3), some (.inr (1000 + w)), some (.inl (nI j))] [] M := by
  intro r
  induction r using Nat.strongRecOn with
  | _ r ih => ?_
  intro j hr hj hall
  have h4 := (wl_4 w hw).1
  have hen := hF.2.1
  have hn := hT.2.1
  refine G_iload_n dX7_isWord_28 rfl rfl ?_
  refine G_aload_n dX7_isWord_29 rfl rfl ?_
  refine G_callK (ν := uJ0_length_8abf5) (As := []) dX7_isWord_30 gX7_35 kJ0_length_8abf5 hw rfl rfl rfl rfl (Nat.le_of_ble_eq_true rfl) (c_slen hw) ?_
  rintro _ M8 ⟨rfl, e9⟩
  subst M8
  refine Gn_icmp_ge (tgt := 57) dX7_isWord_33 (by decide) (by omega) (by omega) (fun h33 => ?_) (fun h33 => ?_)
  · refine G_iconst (v := (nI 1)) dX7_isWord_57 (by decide) ?_
    refine G_iret dX7_isWord_58 rfl (by decide) ?_
    exact ⟨congrArg Sum.inl (bI_dt ⟨h2, hl, fun i hi => hall i (by omega)⟩), rfl⟩
  · refine G_aload_n dX7_isWord_36 rfl rfl ?_
    refine G_iload_n dX7_isWord_37 rfl rfl ?_
    refine G_callVi (ν := uX7_tokenLetter) (As := [.inl (nI j)]) dX7_isWord_38 nX7_40 kX7_tokenLetter rfl rfl rfl rfl rfl (Nat.le_of_ble_eq_true rfl) (c_tlet hT hK hF (by have := hF.2.1; omega)) ?_
    rintro _ M8 ⟨rfl, e9⟩
    subst M8
    have hc9 := (hT.2.2 (s + j) (by have := hF.2.1; omega)).2
    refine G_aload_n dX7_isWord_41 rfl rfl ?_
    refine G_iload_n dX7_isWord_42 rfl rfl ?_
    have hwc := (wch_ok w hw j (by omega)).1
    refine G_callK (ν := uJ0_charAt_5068e) (As := [.inl (nI j)]) dX7_isWord_43 gX7_44 kJ0_charAt_5068e hw rfl rfl rfl rfl (Nat.le_of_ble_eq_true rfl) (c_schar hw (by omega)) ?_
    rintro _ M8 ⟨rfl, e9⟩
    subst M8
    refine Gn_icmp_eq (tgt := 51) dX7_isWord_46 (by decide) (by omega) (by omega) (fun h46 => ?_) (fun h46 => ?_)
    · refine G_iinc (v := (nI (j + 1))) (L2 := [some (.inr 3), some (.inr (1000 + w)), some (.inl (nI (j + 1)))]) dX7_isWord_51 rfl (nI_1 _) rfl ?_
      refine G_goto (tgt := 28) dX7_isWord_54 (by decide) ?_
      exact ih (wl w - (j + 1)) (by omega) (j + 1) rfl (by omega) (fun i hi => by
        rcases (show i < j ∨ i = j by omega) with z | z
        · exact hall i z
        · rw [z]; exact h46)
    · refine G_iconst (v := (nI 0)) dX7_isWord_49 (by decide) ?_
      refine G_iret dX7_isWord_50 rfl (by decide) ?_
      exact ⟨congrArg Sum.inl (bI_df (fun z => h46 (z.2.2 j (by omega)))), rfl⟩
theorem c_isWord {d n s e k w : Nat} {t : Nat → Nat} {M : Mem} (hT : TX n t M) (hK : TKM s e k M) (hF : TF n t s e k) (hw : w < 5) : Call l α D cA uX7_isWord (d + 4) [.inr 3, .inr (1000 + w)] M (fun r M1 => r = .inl (bI (dec (isW t s e k w))) ∧ M1 = M) := by
  refine Call.of kX7_isWord.1 (Nat.le_of_ble_eq_true rfl) ?_
  have h4 := (wl_4 w hw).1
  have hse := hF.1
  have hen := hF.2.1
  have hn := hT.2.1
  have hk5 : k ≤ 5 := by rw [hF.2.2.1]; exact knd_le
  refine G_aload_n dX7_isWord_0 rfl rfl ?_
  refine G_getI (v := (nI k)) dX7_isWord_1 fX7_32 rfl rfl hK.2.2 ?_
  refine G_iconst (v := (nI 2)) dX7_isWord_4 (by decide) ?_
  refine Gn_icmp_ne (tgt := 24) dX7_isWord_5 (by decide) (by omega) (by omega) (fun h5 => ?_) (fun h5 => ?_)
  · refine G_iconst (v := (nI 0)) dX7_isWord_24 (by decide) ?_
    refine G_iret dX7_isWord_25 rfl (by decide) ?_
    exact ⟨congrArg Sum.inl (bI_df (fun z => h5 z.1)), rfl⟩
  · refine G_aload_n dX7_isWord_8 rfl rfl ?_
    refine G_getI (v := (nI e)) dX7_isWord_9 fX7_19 rfl rfl hK.2.1 ?_
    refine G_aload_n dX7_isWord_12 rfl rfl ?_
    refine G_getI (v := (nI s)) dX7_isWord_13 fX7_25 rfl rfl hK.1 ?_
    refine G_isub (v := (nI (e - s))) dX7_isWord_16 (pk_sub (by omega)) ?_
    refine G_aload_n dX7_isWord_17 rfl rfl ?_
    refine G_callK (ν := uJ0_length_8abf5) (As := []) dX7_isWord_18 gX7_35 kJ0_length_8abf5 hw rfl rfl rfl rfl (Nat.le_of_ble_eq_true rfl) (c_slen hw) ?_
    rintro _ M8 ⟨rfl, e9⟩
    subst M8
    refine Gn_icmp_eq (tgt := 26) dX7_isWord_21 (by decide) (by omega) (by omega) (fun h21 => ?_) (fun h21 => ?_)
    · refine G_iconst (v := (nI 0)) dX7_isWord_26 (by decide) ?_
      refine G_istore_n (L2 := [some (.inr 3), some (.inr (1000 + w)), some (.inl (nI 0))]) dX7_isWord_27 rfl (Nat.le_of_ble_eq_true rfl) rfl ?_
      exact l_isWord hT hK hF hw h5 h21 _ 0 rfl (Nat.zero_le _) (fun i hi => absurd hi (Nat.not_lt_zero _))
    · refine G_iconst (v := (nI 0)) dX7_isWord_24 (by decide) ?_
      refine G_iret dX7_isWord_25 rfl (by decide) ?_
      exact ⟨congrArg Sum.inl (bI_df (fun z => h21 z.2.1)), rfl⟩
theorem l_isDig {d n s e k a b lo hi : Nat} {t : Nat → Nat} {M : Mem} (hT : TX n t M) (hK : TKM s e k M) (hF : TF n t s e k) (ha : a ≤ 9) (hb : b ≤ 9) (hlo : lo ≤ 9) (hhi : hi ≤ 9) (h3 : k = 3) (hab : a ≤ e - s ∧ e - s ≤ b) : ∀ r j : Nat, e - s - j = r → j ≤ e - s → (∀ i, i < j → lo ≤ t (s + i) - 48 ∧ t (s + i) - 48 ≤ hi) → G l α D cA uX7_isDigits none (d + 2) (fun r M1 => r = .inl (bI (dec (isD t s e k a b lo hi))) ∧ M1 = M) 30 [some (.inr 3), some (.inl (nI a)), some (.inl (nI b)), some (.inl (nI lo)), some (.inl (nI hi)), some (.inl (nI j))] [] M := by
  intro r
  induction r using Nat.strongRecOn with
  | _ r ih => ?_
  intro j hr hj hall
  have hse := hF.1
  have hen := hF.2.1
  have hn := hT.2.1
  refine G_iload dX7_isDigits_30 rfl ?_
  refine G_aload_n dX7_isDigits_32 rfl rfl ?_
  refine G_getI (v := (nI e)) dX7_isDigits_33 fX7_19 rfl rfl hK.2.1 ?_
  refine G_aload_n dX7_isDigits_36 rfl rfl ?_
  refine G_getI (v := (nI s)) dX7_isDigits_37 fX7_25 rfl rfl hK.1 ?_
  refine G_isub (v := (nI (e - s))) dX7_isDigits_40 (pk_sub (by omega)) ?_
  refine Gn_icmp_ge (tgt := 70) dX7_isDigits_41 (by decide) (by omega) (by omega) (fun h41 => ?_) (fun h41 => ?_)
  · refine G_iconst (v := (nI 1)) dX7_isDigits_70 (by decide) ?_
    refine G_iret dX7_isDigits_71 rfl (by decide) ?_
    exact ⟨congrArg Sum.inl (bI_dt ⟨h3, hab, fun i hi => hall i (by omega)⟩), rfl⟩
  · refine G_aload_n dX7_isDigits_44 rfl rfl ?_
    refine G_iload dX7_isDigits_45 rfl ?_
    refine G_callVi (ν := uX7_tokenLetter) (As := [.inl (nI j)]) dX7_isDigits_47 nX7_40 kX7_tokenLetter rfl rfl rfl rfl rfl (Nat.le_of_ble_eq_true rfl) (c_tlet hT hK hF (by omega)) ?_
    rintro _ M8 ⟨rfl, e9⟩
    subst M8
    have hc9 := hF.2.2.2.1 h3 (s + j) (by omega) (by omega)
    refine G_bipush (v := (nI 48)) dX7_isDigits_50 (by decide) ?_
    refine G_isub (v := (nI ((t (s + j)) - 48))) dX7_isDigits_52 (pk_sub (by omega)) ?_
    refine G_iload_n dX7_isDigits_53 rfl rfl ?_
    refine G_iload dX7_isDigits_54 rfl ?_
    refine G_callSi (ν := uX9_within) (As := [.inl (nI ((t (s + j)) - 48)), .inl (nI lo), .inl (nI hi)]) dX7_isDigits_56 nX7_47 kX9_within rfl rfl rfl (Nat.le_of_ble_eq_true rfl) (c_within) ?_
    rintro _ M8 ⟨rfl, e9⟩
    subst M8
    refine Gb_if_ne (tgt := 64) dX7_isDigits_59 (by decide) (fun h59 => ?_) (fun h59 => ?_)
    · refine G_iinc (v := (nI (j + 1))) (L2 := [some (.inr 3), some (.inl (nI a)), some (.inl (nI b)), some (.inl (nI lo)), some (.inl (nI hi)), some (.inl (nI (j + 1)))]) dX7_isDigits_64 rfl (nI_1 _) rfl ?_
      refine G_goto (tgt := 30) dX7_isDigits_67 (by decide) ?_
      have hin := of_decide_eq_true h59
      rw [nI_leI (by omega) (by omega), nI_leI (by omega) (by omega)] at hin
      exact ih (e - s - (j + 1)) (by omega) (j + 1) rfl (by omega) (fun i hi2 => by
        rcases (show i < j ∨ i = j by omega) with z | z
        · exact hall i z
        · rw [z]; exact hin)
    · refine G_iconst (v := (nI 0)) dX7_isDigits_62 (by decide) ?_
      refine G_iret dX7_isDigits_63 rfl (by decide) ?_
      exact ⟨congrArg Sum.inl (bI_df (fun z => of_decide_eq_false h59 (by rw [nI_leI (by omega) (by omega), nI_leI (by omega) (by omega)]; exact z.2.2 j (by omega)))), rfl⟩
theorem c_isDig {d n s e k a b lo hi : Nat} {t : Nat → Nat} {M : Mem} (hT : TX n t M) (hK : TKM s e k M) (hF : TF n t s e k) (ha : a ≤ 9) (hb : b ≤ 9) (hlo : lo ≤ 9) (hhi : hi ≤ 9) : Call l α D cA uX7_isDigits (d + 2) [.inr 3, .inl (nI a), .inl (nI b), .inl (nI lo), .inl (nI hi)] M (fun r M1 => r = .inl (bI (dec (isD t s e k a b lo hi))) ∧ M1 = M) := by
  refine Call.of kX7_isDigits.1 (Nat.le_of_ble_eq_true rfl) ?_
  have hse := hF.1
  have hen := hF.2.1
  have hn := hT.2.1
  have hk5 : k ≤ 5 := by rw [hF.2.2.1]; exact knd_le
  refine G_aload_n dX7_isDigits_0 rfl rfl ?_
  refine G_getI (v := (nI k)) dX7_isDigits_1 fX7_32 rfl rfl hK.2.2 ?_
  refine G_iconst (v := (nI 3)) dX7_isDigits_4 (by decide) ?_
  refine Gn_icmp_ne (tgt := 25) dX7_isDigits_5 (by decide) (by omega) (by omega) (fun h5 => ?_) (fun h5 => ?_)
  · refine G_iconst (v := (nI 0)) dX7_isDigits_25 (by decide) ?_
    refine G_iret dX7_isDigits_26 rfl (by decide) ?_
    exact ⟨congrArg Sum.inl (bI_df (fun z => h5 z.1)), rfl⟩
  · refine G_aload_n dX7_isDigits_8 rfl rfl ?_
    refine G_getI (v := (nI e)) dX7_isDigits_9 fX7_19 rfl rfl hK.2.1 ?_
    refine G_aload_n dX7_isDigits_12 rfl rfl ?_
    refine G_getI (v := (nI s)) dX7_isDigits_13 fX7_25 rfl rfl hK.1 ?_
    refine G_isub (v := (nI (e - s))) dX7_isDigits_16 (pk_sub (by omega)) ?_
    refine G_iload_n dX7_isDigits_17 rfl rfl ?_
    refine G_iload_n dX7_isDigits_18 rfl rfl ?_
    refine G_callSi (ν := uX9_within) (As := [.inl (nI (e - s)), .inl (nI a), .inl (nI b)]) dX7_isDigits_19 nX7_47 kX9_within rfl rfl rfl (Nat.le_of_ble_eq_true rfl) (c_within) ?_
    rintro _ M8 ⟨rfl, e9⟩
    subst M8
    refine Gb_if_ne (tgt := 27) dX7_isDigits_22 (by decide) (fun h22 => ?_) (fun h22 => ?_)
    · refine G_iconst (v := (nI 0)) dX7_isDigits_27 (by decide) ?_
      refine G_istore (L2 := [some (.inr 3), some (.inl (nI a)), some (.inl (nI b)), some (.inl (nI lo)), some (.inl (nI hi)), some (.inl (nI 0))]) dX7_isDigits_28 (Nat.le_of_ble_eq_true rfl) rfl ?_
      have hin := of_decide_eq_true h22
      rw [nI_leI (by omega) (by omega), nI_leI (by omega) (by omega)] at hin
      exact l_isDig hT hK hF ha hb hlo hhi h5 hin _ 0 rfl (Nat.zero_le _) (fun i hi => absurd hi (Nat.not_lt_zero _))
    · refine G_iconst (v := (nI 0)) dX7_isDigits_25 (by decide) ?_
      refine G_iret dX7_isDigits_26 rfl (by decide) ?_
      exact ⟨congrArg Sum.inl (bI_df (fun z => of_decide_eq_false h22 (by rw [nI_leI (by omega) (by omega), nI_leI (by omega) (by omega)]; exact z.2.1))), rfl⟩
end P22
