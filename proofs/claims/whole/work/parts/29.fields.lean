/-! The reference: fields laid anew -/
section P29
variable {l : Launch} {α : Nat → Nat} {D : va_G} {cA : Nat → ClassId}
def R58 (M M1 : Mem) : Prop := ∀ q, q ≠ 58 → M1 q = M q
def FS (g : Nat → Nat) (n : Nat) (F0 : Nat → Option Nat) (S : Nat → Bool) (c : Nat) : Option Nat := if S c = true then some n else F0 (pl (g 0) c)
theorem FS_n {g : Nat → Nat} {n c : Nat} {F0 : Nat → Option Nat} {S : Nat → Bool} (hF : ∀ q x, F0 q = some x → x < n) (hn : n ≤ 48) : oI (FS g n F0 S c) = nI n ↔ S c = true := by
  unfold FS
  constructor
  · intro h
    cases hS : S c with
    | true => rfl
    | false =>
      rw [hS, if_neg (by decide)] at h
      cases hq : F0 (pl (g 0) c) with
      | none =>
        rw [hq] at h
        have h1 := nI_pos (show n < 2 ^ 31 by omega)
        have h : (-9 : Int32) = nI n := h
        rw [← h] at h1
        exact absurd (by decide) h1
      | some x =>
        rw [hq] at h
        have hx := hF _ _ hq
        have : x = n := (nI_eq (by omega) (by omega)).mp h
        omega
  · intro h
    rw [h, if_pos rfl]
    rfl
theorem FS_none {g : Nat → Nat} {n c : Nat} {F0 : Nat → Option Nat} {S : Nat → Bool} (hF : ∀ q x, F0 q = some x → x < n) (hn : n ≤ 48) : oI (FS g n F0 S c) = -9 ↔ S c = false ∧ F0 (pl (g 0) c) = none := by
  rw [oI_none (fun t h => ?_)]
  · unfold FS
    cases hS : S c with
    | true => rw [if_pos rfl]; exact ⟨fun h => (by cases h), fun h => (by cases h.1)⟩
    | false => rw [if_neg (by decide)]; exact ⟨fun h => ⟨rfl, h⟩, fun h => h.2⟩
  · unfold FS at h
    split at h
    · cases h; omega
    · have := hF _ _ h; omega
def SPI (g : Nat → Nat) (n p0 c0 : Nat) (F0 : Nat → Option Nat) (S : Nat → Bool) (M : Mem) : Prop := (∀ c, c < g 0 * g 1 → M 58 c = oI (FS g n F0 S c)) ∧ (∀ c, c < g 0 * g 1 → S c = true → conn g p0 (pl (g 0) c)) ∧ S c0 = true
/-- b could still be reached -/
def opn (g : Nat → Nat) (p0 : Nat) (F0 : Nat → Option Nat) (S : Nat → Bool) (a b : Nat) : Prop := S a = true ∧ (S b = false ∧ F0 (pl (g 0) b) = none) ∧ g (12 + pl (g 0) b) = g (12 + p0) ∧ bsd (g 0) a b
def PVs (g : Nat → Nat) (p0 : Nat) (F0 : Nat → Option Nat) (S0 S : Nat → Bool) (mo : Bool) (a b : Nat) : Prop := (mo = false ∧ S = S0 ∧ ∀ a' b', a' < g 0 * g 1 → b' < g 0 * g 1 → (a' < a ∨ (a' = a ∧ b' < b)) → ¬ opn g p0 F0 S a' b') ∨ (mo = true ∧ fb_ct S0 (g 0 * g 1) < fb_ct S (g 0 * g 1))
theorem PVs_skip {g : Nat → Nat} {p0 a b : Nat} {F0 : Nat → Option Nat} {S0 S : Nat → Bool} {mo : Bool} (h : PVs g p0 F0 S0 S mo a b) (hn : ¬ opn g p0 F0 S a b) : PVs g p0 F0 S0 S mo a (b + 1) := by
  rcases h with ⟨h1, h2, h3⟩ | h
  · refine Or.inl ⟨h1, h2, fun a' b' ha hb hh => ?_⟩
    by_cases e : a' = a ∧ b' = b
    · rw [e.1, e.2]; exact hn
    · exact h3 a' b' ha hb (by omega)
  · exact Or.inr h
theorem PVs_next {g : Nat → Nat} {p0 a : Nat} {F0 : Nat → Option Nat} {S0 S : Nat → Bool} {mo : Bool} (h : PVs g p0 F0 S0 S mo a (g 0 * g 1)) : PVs g p0 F0 S0 S mo (a + 1) 0 := by
  rcases h with ⟨h1, h2, h3⟩ | h
  · exact Or.inl ⟨h1, h2, fun a' b' ha hb hh => h3 a' b' ha hb (by omega)⟩
  · exact Or.inr h
theorem PVs_out {g : Nat → Nat} {p0 a b : Nat} {F0 : Nat → Option Nat} {S0 S : Nat → Bool} {mo : Bool} (h : PVs g p0 F0 S0 S mo a b) (hn : ¬ S a = true) : PVs g p0 F0 S0 S mo a (g 0 * g 1) := by
  rcases h with ⟨h1, h2, h3⟩ | h
  · refine Or.inl ⟨h1, h2, fun a' b' ha hb hh => ?_⟩
    by_cases e : a' = a
    · rw [e]; exact fun q => hn q.1
    · exact h3 a' b' ha hb (by omega)
  · exact Or.inr h
def setB (S : Nat → Bool) (b : Nat) : Nat → Bool := fun k => if k = b then true else S k
theorem PVs_set {g : Nat → Nat} {p0 a b : Nat} {F0 : Nat → Option Nat} {S0 S : Nat → Bool} {mo : Bool} (h : PVs g p0 F0 S0 S mo a b) (hb : b < g 0 * g 1) (hs : S b = false) : PVs g p0 F0 S0 (setB S b) true a (b + 1) ∧ fb_ct (setB S b) (g 0 * g 1) = fb_ct S (g 0 * g 1) + 1 := by
  have k := fb_ct_upd S true hb
  rw [hs] at k
  simp only [Bool.false_eq_true, if_false, if_true] at k
  have k : fb_ct (setB S b) (g 0 * g 1) = fb_ct S (g 0 * g 1) + 1 := k
  refine ⟨Or.inr ⟨rfl, ?_⟩, k⟩
  rw [k]
  rcases h with ⟨h1, h2, h3⟩ | h
  · rw [h2]; exact Nat.lt_succ_self _
  · have := h.2; omega
theorem SPI_set {g : Nat → Nat} {n p0 c0 a b : Nat} {F0 : Nat → Option Nat} {S : Nat → Bool} {M : Mem} (hk : gok g) (hp : p0 < 48) (hc : g (12 + p0) ≠ 0) (h : SPI g n p0 c0 F0 S M) (ha : a < g 0 * g 1) (hb : b < g 0 * g 1) (ho : opn g p0 F0 S a b) : SPI g n p0 c0 F0 (setB S b) (ms M 58 b (nI n)) := by
  obtain ⟨h1, h2, h3⟩ := h
  refine ⟨fun c hc => ?_, fun c hcN hc => ?_, ?_⟩
  · rw [ms_o]
    unfold upd FS setB
    by_cases e : c = b
    · rw [if_pos e, if_pos e, if_pos rfl]; rfl
    · rw [if_neg e, if_neg e]; exact h1 c hc
  · unfold setB at hc
    by_cases e : c = b
    · subst e
      have ca := h2 a ha ho.1
      exact conn_trans ca ⟨1, rch_step ⟨by rw [conn_col ca]; assumption, by rw [ho.2.2.1, conn_col ca], ho.2.2.2⟩⟩
    · rw [if_neg e] at hc
      exact h2 c hcN hc
  · unfold setB
    split
    · rfl
    · exact h3
theorem SPI_end {g : Nat → Nat} {n p0 c0 : Nat} {F0 : Nat → Option Nat} {S : Nat → Bool} {M : Mem} (hk : gok g) (hp : p0 < 48) (hc : g (12 + p0) ≠ 0) (hp0 : pl (g 0) c0 = p0) (hno : ∀ q f, F0 q = some f → ¬ conn g p0 q) (h : SPI g n p0 c0 F0 S M) (hcl : ∀ a b, a < g 0 * g 1 → b < g 0 * g 1 → ¬ opn g p0 F0 S a b) : ∀ c, c < g 0 * g 1 → M 58 c = oI (labA g p0 n F0 (pl (g 0) c)) := by
  obtain ⟨h1, h2, h3⟩ := h
  have key : ∀ k q, rch g k p0 q → ∃ c, c < g 0 * g 1 ∧ pl (g 0) c = q ∧ S c = true := by
    intro k
    induction k with
    | zero =>
      intro q hq
      have e : p0 = q := hq
      subst e
      obtain ⟨c, c1, c2⟩ := cel_of hk hp hc
      have : c = c0 := pl_inj hk.1.1 hk.1.2 (by rw [c2, hp0])
      subst this
      exact ⟨c, c1, c2, h3⟩
    | succ k ih =>
      intro q hq
      rcases hq with hq | ⟨r, hr, ha⟩
      · exact ih q hq
      · obtain ⟨a, a1, a2, a3⟩ := ih r hr
        subst a2
        have hq48 := adjc_lt (pl_g hk a1) ha
        obtain ⟨b, b1, b2⟩ := cel_of hk hq48 (by rw [ha.2.1]; exact ha.1)
        subst b2
        refine ⟨b, b1, rfl, ?_⟩
        cases hb : S b with
        | true => rfl
        | false =>
          have ca := h2 a a1 a3
          have cb : conn g p0 (pl (g 0) b) := conn_trans ca ⟨1, rch_step ha⟩
          have hf : F0 (pl (g 0) b) = none := by
            cases hz : F0 (pl (g 0) b) with
            | none => rfl
            | some f => exact absurd cb (hno _ f hz)
          exact absurd ⟨a3, ⟨hb, hf⟩, conn_col cb, ha.2.2⟩ (hcl a b a1 b1)
  intro c hcN
  rw [h1 c hcN]
  unfold FS
  by_cases z : conn g p0 (pl (g 0) c)
  · rw [labA_in z]
    obtain ⟨k, hkk⟩ := z
    obtain ⟨c', a1, a2, a3⟩ := key k _ hkk
    have := pl_inj hk.1.1 hk.1.2 a2
    subst this
    rw [a3, if_pos rfl]
  · rw [labA_out z, if_neg (fun q => z (h2 c hcN q))]
theorem lab_skip {g : Nat → Nat} {a b : Nat} (h : a ≤ b) (hz : ∀ p, a ≤ p → p < b → g (12 + p) = 0) : lab g a = lab g b := by
  obtain ⟨k, rfl⟩ := Nat.le.dest h
  clear h
  induction k with
  | zero => rfl
  | succ k ih =>
    rw [ih (fun p h1 h2 => hz p h1 (by omega)), ← Nat.add_assoc, lab_old (fun q => q.1 (hz _ (by omega) (by omega)))]
theorem pl_N {g : Nat → Nat} (hk : gok g) : pl (g 0) (g 0 * g 1) = 8 * g 1 := by
  have := hk.1.1
  unfold pl
  rw [Nat.mul_div_cancel_left _ (by omega), Nat.mul_mod_right]
  omega
theorem lab_step {g : Nat → Nat} (hk : gok g) {c : Nat} (hc : c < g 0 * g 1) : lab g (pl (g 0) c + 1) = lab g (pl (g 0) (c + 1)) := by
  refine lab_skip (pl_lt hk.1.1 hk.1.2 (Nat.lt_succ_self c)) (fun p h1 h2 => ?_)
  rcases Nat.eq_zero_or_pos (g (12 + p)) with z | z
  · exact z
  · have h48 : pl (g 0) (c + 1) ≤ 48 := by
      rcases (show c + 1 < g 0 * g 1 ∨ c + 1 = g 0 * g 1 by omega) with y | y
      · exact Nat.le_of_lt (pl_g hk y)
      · rw [y, pl_N hk]; have := hk.2.1.2; omega
    obtain ⟨c', c1, c2⟩ := cel_of hk (p := p) (by omega) (by omega)
    rcases (show c' ≤ c ∨ c + 1 ≤ c' by omega) with y | y
    · rcases (show c' < c ∨ c' = c by omega) with x | x
      · have := pl_lt hk.1.1 hk.1.2 x; omega
      · rw [x] at c2; omega
    · rcases (show c + 1 < c' ∨ c + 1 = c' by omega) with x | x
      · have := pl_lt hk.1.1 hk.1.2 x; omega
      · rw [x] at h2; omega
theorem lab_last {g : Nat → Nat} (hk : gok g) : lab g (pl (g 0) (g 0 * g 1)) = lab g 48 := by
  have h6 := hk.2.1.2
  refine lab_skip (by rw [pl_N hk]; omega) (fun p h1 h2 => ?_)
  rcases Nat.eq_zero_or_pos (g (12 + p)) with z | z
  · exact z
  · rw [pl_N hk] at h1
    have := (hk.2.2.2.2.2 p h2).2 (by omega)
    omega
/-- the fields are laid -/
def FOg (g : Nat → Nat) (M : Mem) : Prop := (∀ c, c < g 0 * g 1 → M 58 c = oI (labF g (pl (g 0) c))) ∧ M 50 16 = nI (labN g)
def FRL (M M1 : Mem) : Prop := (∀ q, q ≠ 50 → q ≠ 58 → M1 q = M q) ∧ ∀ j, j ≠ 16 → M1 50 j = M 50 j
theorem FRL_r {M : Mem} : FRL M M := ⟨fun _ _ _ => rfl, fun _ _ => rfl⟩
theorem FRL_58 {M M1 M2 : Mem} (h : FRL M M1) (h2 : R58 M1 M2) : FRL M M2 := ⟨fun q a b => (h2 q b).trans (h.1 q a b), fun j a => by rw [h2 50 (by decide)]; exact h.2 j a⟩
def FOc (g : Nat → Nat) (c : Nat) (M : Mem) : Prop := (∀ c', c' < g 0 * g 1 → M 58 c' = oI ((lab g (pl (g 0) c)).1 (pl (g 0) c'))) ∧ M 50 16 = nI (lab g (pl (g 0) c)).2.1
theorem l_sprB {d a : Nat} {g : Nat → Nat} {n p0 c0 : Nat} {F0 : Nat → Option Nat} {M : Mem} (hs : hS g (M 51)) (hk : gok g) (hn : n ≤ 48) (hp : p0 < 48) (hc0 : g (12 + p0) ≠ 0) (hpc : pl (g 0) c0 = p0) (hF : ∀ q x, F0 q = some x → x < n) (hno : ∀ q f, F0 q = some f → ¬ conn g p0 q) (ha : a < g 0 * g 1) {S0 : Nat → Bool} {Q : AV → Mem → Prop} (out : ∀ (S : Nat → Bool) (mo : Bool) (M1 : Mem) (x5 : Option AV), R58 M M1 → SPI g n p0 c0 F0 S M1 → PVs g p0 F0 S0 S mo a (g 0 * g 1) → G l α D cA uX10_spreads none (d + 1) Q 96 [some (.inr 50), some (.inl (nI n)), some (.inl (nI (g (12 + p0)))), some (.inl (bI mo)), some (.inl (nI a)), x5] [] M1) : ∀ (k b : Nat) (S : Nat → Bool) (mo : Bool) (M1 : Mem), g 0 * g 1 - b = k → b ≤ g 0 * g 1 → R58 M M1 → SPI g n p0 c0 F0 S M1 → PVs g p0 F0 S0 S mo a b → G l α D cA uX10_spreads none (d + 1) Q 23 [some (.inr 50), some (.inl (nI n)), some (.inl (nI (g (12 + p0)))), some (.inl (bI mo)), some (.inl (nI a)), some (.inl (nI b))] [] M1 := by
  have hN := cel_48 hk
  intro k
  induction k using Nat.strongRecOn with
  | _ k ih => ?_
  intro b S mo M1 hkk hb hR hSP hP
  have hs1 : hS g (M1 51) := by rw [hR 51 (by decide)]; exact hs
  refine G_iload dX10_spreads_23 rfl ?_
  refine G_aload_n dX10_spreads_25 rfl rfl ?_
  refine G_callVi (ν := uX10_cells) (As := []) dX10_spreads_26 nX10_151 kX10_cells rfl rfl rfl rfl rfl (Nat.le_of_ble_eq_true rfl) (y_cells hs1 hk) ?_
  rintro _ M8 ⟨rfl, e9⟩
  subst M8
  refine Gn_icmp_ge (tgt := 96) dX10_spreads_29 (by decide) (by omega) (by omega) (fun h29 => ?_) (fun h29 => ?_)
  · have e : b = g 0 * g 1 := by omega
    subst e
    exact out _ _ _ _ hR hSP hP
  · refine G_aload_n dX10_spreads_32 rfl rfl ?_
    refine G_getR (j := 58) dX10_spreads_33 fX10_33 rfl rfl ?_
    refine G_iload dX10_spreads_36 rfl ?_
    refine G_iald (k := a) (v := (oI (FS g n F0 S a))) dX10_spreads_38 rfl (vp_in_nI (by omega) (by omega)) (nI_clamp (by omega)) (hSP.1 a ha) ?_
    refine G_iload_n dX10_spreads_39 rfl rfl ?_
    refine G_icmp_ne (tgt := 96) dX10_spreads_40 (by decide) (fun h40 => ?_) (fun h40 => ?_)
    · exact out _ _ _ _ hR hSP (PVs_out hP (fun q => h40 ((FS_n hF hn).mpr q)))
    · refine G_aload_n dX10_spreads_43 rfl rfl ?_
      refine G_getR (j := 58) dX10_spreads_44 fX10_33 rfl rfl ?_
      refine G_iload dX10_spreads_47 rfl ?_
      refine G_iald (k := b) (v := (oI (FS g n F0 S b))) dX10_spreads_49 rfl (vp_in_nI (by omega) (by omega)) (nI_clamp (by omega)) (hSP.1 b (by omega)) ?_
      refine G_bipush (v := ((-9))) dX10_spreads_50 (by decide) ?_
      refine G_icmp_ne (tgt := 90) dX10_spreads_52 (by decide) (fun h52 => ?_) (fun h52 => ?_)
      · refine G_iinc (v := (nI (b + 1))) (L2 := [some (.inr 50), some (.inl (nI n)), some (.inl (nI (g (12 + p0)))), some (.inl (bI mo)), some (.inl (nI a)), some (.inl (nI (b + 1)))]) dX10_spreads_90 rfl (nI_1 _) rfl ?_
        refine G_goto (tgt := 23) dX10_spreads_93 (by decide) ?_
        exact ih (g 0 * g 1 - (b + 1)) (by omega) (b + 1) S mo M1 rfl (by omega) hR hSP (PVs_skip hP (fun ho => h52 ((FS_none hF hn).mpr ho.2.1)))
      · refine G_aload_n dX10_spreads_55 rfl rfl ?_
        refine G_getR (j := 51) dX10_spreads_56 fX10_7 rfl rfl ?_
        refine G_bipush (v := (nI 12)) dX10_spreads_59 (by decide) ?_
        refine G_iload dX10_spreads_61 rfl ?_
        refine G_iadd (v := (nI (12 + b))) dX10_spreads_63 (nI_add _ _) ?_
        refine G_iald (k := 12 + b) (v := (nI (g (12 + pl (g 0) b)))) dX10_spreads_64 rfl (vp_in_nI (by omega) (by omega)) (nI_clamp (by omega)) (hs1.2 b (by omega)) ?_
        have hb9 := (hk.2.2.2.2.2 _ (pl_g hk (show b < g 0 * g 1 by omega))).1
        have hb8 := (hk.2.2.2.2.2 _ hp).1
        refine G_iload_n dX10_spreads_65 rfl rfl ?_
        refine Gn_icmp_ne (tgt := 90) dX10_spreads_66 (by decide) (by omega) (by omega) (fun h66 => ?_) (fun h66 => ?_)
        · refine G_iinc (v := (nI (b + 1))) (L2 := [some (.inr 50), some (.inl (nI n)), some (.inl (nI (g (12 + p0)))), some (.inl (bI mo)), some (.inl (nI a)), some (.inl (nI (b + 1)))]) dX10_spreads_90 rfl (nI_1 _) rfl ?_
          refine G_goto (tgt := 23) dX10_spreads_93 (by decide) ?_
          exact ih (g 0 * g 1 - (b + 1)) (by omega) (b + 1) S mo M1 rfl (by omega) hR hSP (PVs_skip hP (fun ho => h66 ho.2.2.1))
        · refine G_aload_n dX10_spreads_69 rfl rfl ?_
          refine G_iload dX10_spreads_70 rfl ?_
          refine G_iload dX10_spreads_72 rfl ?_
          refine G_callVi (ν := uX10_areBeside) (As := [.inl (nI a), .inl (nI b)]) dX10_spreads_74 nX10_157 kX10_areBeside rfl rfl rfl rfl rfl (Nat.le_of_ble_eq_true rfl) (y_beside hs1 hk ha (by omega)) ?_
          rintro _ M8 ⟨rfl, e9⟩
          subst M8
          refine Gb_if_eq (tgt := 90) dX10_spreads_77 (by decide) (fun h77 => ?_) (fun h77 => ?_)
          · refine G_iinc (v := (nI (b + 1))) (L2 := [some (.inr 50), some (.inl (nI n)), some (.inl (nI (g (12 + p0)))), some (.inl (bI mo)), some (.inl (nI a)), some (.inl (nI (b + 1)))]) dX10_spreads_90 rfl (nI_1 _) rfl ?_
            refine G_goto (tgt := 23) dX10_spreads_93 (by decide) ?_
            exact ih (g 0 * g 1 - (b + 1)) (by omega) (b + 1) S mo M1 rfl (by omega) hR hSP (PVs_skip hP (fun ho => dec_niff.mp h77 ho.2.2.2))
          · refine G_aload_n dX10_spreads_80 rfl rfl ?_
            refine G_getR (j := 58) dX10_spreads_81 fX10_33 rfl rfl ?_
            refine G_iload dX10_spreads_84 rfl ?_
            refine G_iload_n dX10_spreads_86 rfl rfl ?_
            refine G_iast (k := b) (v := (nI n)) dX10_spreads_87 rfl (vp_in_nI (by omega) (by omega)) (nI_clamp (by omega)) rfl ?_
            refine G_iconst (v := (nI 1)) dX10_spreads_88 (by decide) ?_
            refine G_istore_n (L2 := [some (.inr 50), some (.inl (nI n)), some (.inl (nI (g (12 + p0)))), some (.inl (nI 1)), some (.inl (nI a)), some (.inl (nI b))]) dX10_spreads_89 rfl (Nat.le_of_ble_eq_true rfl) rfl ?_
            refine G_iinc (v := (nI (b + 1))) (L2 := [some (.inr 50), some (.inl (nI n)), some (.inl (nI (g (12 + p0)))), some (.inl (nI 1)), some (.inl (nI a)), some (.inl (nI (b + 1)))]) dX10_spreads_90 rfl (nI_1 _) rfl ?_
            refine G_goto (tgt := 23) dX10_spreads_93 (by decide) ?_
            have ho : opn g p0 F0 S a b := ⟨(FS_n hF hn).mp h40, (FS_none hF hn).mp h52, h66, dec_iff.mp h77⟩
            exact ih (g 0 * g 1 - (b + 1)) (by omega) (b + 1) (setB S b) true _ rfl (by omega) (fun q z => (ms_q z).trans (hR q z)) (SPI_set hk hp hc0 hSP ha (by omega) ho) (PVs_set hP (by omega) ho.2.1.1).1
theorem l_sprA {d : Nat} {g : Nat → Nat} {n p0 c0 : Nat} {F0 : Nat → Option Nat} {M : Mem} (hs : hS g (M 51)) (hk : gok g) (hn : n ≤ 48) (hp : p0 < 48) (hc0 : g (12 + p0) ≠ 0) (hpc : pl (g 0) c0 = p0) (hF : ∀ q x, F0 q = some x → x < n) (hno : ∀ q f, F0 q = some f → ¬ conn g p0 q) {S0 : Nat → Bool} {Q : AV → Mem → Prop} (out : ∀ (S : Nat → Bool) (mo : Bool) (M1 : Mem) (x4 x5 : Option AV), R58 M M1 → SPI g n p0 c0 F0 S M1 → PVs g p0 F0 S0 S mo (g 0 * g 1) 0 → G l α D cA uX10_spreads none (d + 1) Q 102 [some (.inr 50), some (.inl (nI n)), some (.inl (nI (g (12 + p0)))), some (.inl (bI mo)), x4, x5] [] M1) : ∀ (k a : Nat) (S : Nat → Bool) (mo : Bool) (M1 : Mem) (x5 : Option AV), g 0 * g 1 - a = k → a ≤ g 0 * g 1 → R58 M M1 → SPI g n p0 c0 F0 S M1 → PVs g p0 F0 S0 S mo a 0 → G l α D cA uX10_spreads none (d + 1) Q 11 [some (.inr 50), some (.inl (nI n)), some (.inl (nI (g (12 + p0)))), some (.inl (bI mo)), some (.inl (nI a)), x5] [] M1 := by
  have hN := cel_48 hk
  intro k
  induction k using Nat.strongRecOn with
  | _ k ih => ?_
  intro a S mo M1 x5 hkk ha hR hSP hP
  have hs1 : hS g (M1 51) := by rw [hR 51 (by decide)]; exact hs
  refine G_iload dX10_spreads_11 rfl ?_
  refine G_aload_n dX10_spreads_13 rfl rfl ?_
  refine G_callVi (ν := uX10_cells) (As := []) dX10_spreads_14 nX10_151 kX10_cells rfl rfl rfl rfl rfl (Nat.le_of_ble_eq_true rfl) (y_cells hs1 hk) ?_
  rintro _ M8 ⟨rfl, e9⟩
  subst M8
  refine Gn_icmp_ge (tgt := 102) dX10_spreads_17 (by decide) (by omega) (by omega) (fun h17 => ?_) (fun h17 => ?_)
  · have e : a = g 0 * g 1 := by omega
    subst e
    exact out _ _ _ _ _ hR hSP hP
  · refine G_iconst (v := (nI 0)) dX10_spreads_20 (by decide) ?_
    refine G_istore (L2 := [some (.inr 50), some (.inl (nI n)), some (.inl (nI (g (12 + p0)))), some (.inl (bI mo)), some (.inl (nI a)), some (.inl (nI 0))]) dX10_spreads_21 (Nat.le_of_ble_eq_true rfl) rfl ?_
    refine l_sprB (M := M1) hs1 hk hn hp hc0 hpc hF hno (show a < g 0 * g 1 by omega) (S0 := S0) (fun S2 mo2 M2 x5 hR2 hSP2 hP2 => ?_) _ 0 S mo M1 rfl (Nat.zero_le _) (fun _ _ => rfl) hSP hP
    refine G_iinc (v := (nI (a + 1))) (L2 := [some (.inr 50), some (.inl (nI n)), some (.inl (nI (g (12 + p0)))), some (.inl (bI mo2)), some (.inl (nI (a + 1))), x5]) dX10_spreads_96 rfl (nI_1 _) rfl ?_
    refine G_goto (tgt := 11) dX10_spreads_99 (by decide) ?_
    exact ih (g 0 * g 1 - (a + 1)) (by omega) (a + 1) S2 mo2 M2 _ rfl (by omega) (fun q z => (hR2 q z).trans (hR q z)) hSP2 (PVs_next hP2)
theorem l_sprE {d : Nat} {g : Nat → Nat} {n p0 c0 : Nat} {F0 : Nat → Option Nat} {M : Mem} (hs : hS g (M 51)) (hk : gok g) (hn : n ≤ 48) (hp : p0 < 48) (hc0 : g (12 + p0) ≠ 0) (hpc : pl (g 0) c0 = p0) (hF : ∀ q x, F0 q = some x → x < n) (hno : ∀ q f, F0 q = some f → ¬ conn g p0 q) {S : Nat → Bool} {M1 : Mem} {x4 x5 : Option AV} (hR : R58 M M1) (hSP : SPI g n p0 c0 F0 S M1) (hcl : (∀ a b, a < g 0 * g 1 → b < g 0 * g 1 → ¬ opn g p0 F0 S a b)) : G l α D cA uX10_spreads none (d + 1) (fun _ M1 => R58 M M1 ∧ ∀ c, c < g 0 * g 1 → M1 58 c = oI (labA g p0 n F0 (pl (g 0) c))) 2 [some (.inr 50), some (.inl (nI n)), some (.inl (nI (g (12 + p0)))), some (.inl (bI false)), x4, x5] [] M1 := by
  refine G_iload_n dX10_spreads_2 rfl rfl ?_
  refine Gb_if_eq (tgt := 105) dX10_spreads_3 (by decide) (fun h3 => ?_) (fun h3 => ?_)
  · refine G_vret dX10_spreads_105 rfl ?_
    exact ⟨hR, SPI_end hk hp hc0 hpc hno hSP hcl⟩
  · cases h3
theorem l_sprW {d : Nat} {g : Nat → Nat} {n p0 c0 : Nat} {F0 : Nat → Option Nat} {M : Mem} (hs : hS g (M 51)) (hk : gok g) (hn : n ≤ 48) (hp : p0 < 48) (hc0 : g (12 + p0) ≠ 0) (hpc : pl (g 0) c0 = p0) (hF : ∀ q x, F0 q = some x → x < n) (hno : ∀ q f, F0 q = some f → ¬ conn g p0 q) : ∀ (k : Nat) (S : Nat → Bool) (M1 : Mem) (x4 x5 : Option AV), g 0 * g 1 - fb_ct S (g 0 * g 1) = k → R58 M M1 → SPI g n p0 c0 F0 S M1 → G l α D cA uX10_spreads none (d + 1) (fun _ M1 => R58 M M1 ∧ ∀ c, c < g 0 * g 1 → M1 58 c = oI (labA g p0 n F0 (pl (g 0) c))) 2 [some (.inr 50), some (.inl (nI n)), some (.inl (nI (g (12 + p0)))), some (.inl (bI true)), x4, x5] [] M1 := by
  have hN := cel_48 hk
  intro k
  induction k using Nat.strongRecOn with
  | _ k ih => ?_
  intro S M1 x4 x5 hkk hR hSP
  have hs1 : hS g (M1 51) := by rw [hR 51 (by decide)]; exact hs
  refine G_iload_n dX10_spreads_2 rfl rfl ?_
  refine Gb_if_eq (tgt := 105) dX10_spreads_3 (by decide) (fun h3 => ?_) (fun h3 => ?_)
  · cases h3
  · refine G_iconst (v := (nI 0)) dX10_spreads_6 (by decide) ?_
    refine G_istore_n (L2 := [some (.inr 50), some (.inl (nI n)), some (.inl (nI (g (12 + p0)))), some (.inl (nI 0)), x4, x5]) dX10_spreads_7 rfl (Nat.le_of_ble_eq_true rfl) rfl ?_
    refine G_iconst (v := (nI 0)) dX10_spreads_8 (by decide) ?_
    refine G_istore (L2 := [some (.inr 50), some (.inl (nI n)), some (.inl (nI (g (12 + p0)))), some (.inl (nI 0)), some (.inl (nI 0)), x5]) dX10_spreads_9 (Nat.le_of_ble_eq_true rfl) rfl ?_
    refine l_sprA (M := M1) hs1 hk hn hp hc0 hpc hF hno (S0 := S) (fun S2 mo2 M2 x4 x5 hR2 hSP2 hP2 => ?_) _ 0 S false M1 _ rfl (Nat.zero_le _) (fun _ _ => rfl) hSP (Or.inl ⟨rfl, rfl, fun a' b' _ _ h => by omega⟩)
    refine G_goto (tgt := 2) dX10_spreads_102 (by decide) ?_
    rcases hP2 with ⟨rfl, e2, h3⟩ | ⟨rfl, h2⟩
    · exact l_sprE hs hk hn hp hc0 hpc hF hno (fun q z => (hR2 q z).trans (hR q z)) hSP2 (fun a b ha hb => h3 a b ha hb (Or.inl ha))
    · have := fb_ct_le S2 (g 0 * g 1)
      exact ih (g 0 * g 1 - fb_ct S2 (g 0 * g 1)) (by omega) S2 M2 _ _ rfl (fun q z => (hR2 q z).trans (hR q z)) hSP2
theorem y_spreads {d : Nat} {g : Nat → Nat} {n p0 c0 : Nat} {F0 : Nat → Option Nat} {M : Mem} (hs : hS g (M 51)) (hk : gok g) (hn : n ≤ 48) (hp : p0 < 48) (hc0 : g (12 + p0) ≠ 0) (hpc : pl (g 0) c0 = p0) (hF : ∀ q x, F0 q = some x → x < n) (hno : ∀ q f, F0 q = some f → ¬ conn g p0 q) (hM : SPI g n p0 c0 F0 (fun c => decide (c = c0)) M) : Call l α D cA uX10_spreads (d + 1) [.inr 50, .inl (nI n), .inl (nI (g (12 + p0)))] M (fun _ M1 => R58 M M1 ∧ ∀ c, c < g 0 * g 1 → M1 58 c = oI (labA g p0 n F0 (pl (g 0) c))) := by
  refine Call.of kX10_spreads.1 (Nat.le_of_ble_eq_true rfl) ?_
  refine G_iconst (v := (nI 1)) dX10_spreads_0 (by decide) ?_
  refine G_istore_n (L2 := [some (.inr 50), some (.inl (nI n)), some (.inl (nI (g (12 + p0)))), some (.inl (nI 1)), none, none]) dX10_spreads_1 rfl (Nat.le_of_ble_eq_true rfl) rfl ?_
  exact l_sprW hs hk hn hp hc0 hpc hF hno _ _ M _ _ rfl (fun _ _ => rfl) hM
theorem l_layF {d : Nat} {g : Nat → Nat} {M : Mem} (hs : hS g (M 51)) (hk : gok g) : ∀ (k c : Nat) (M1 : Mem), g 0 * g 1 - c = k → c ≤ g 0 * g 1 → FRL M M1 → FOc g c M1 → G l α D cA uX10_laysFields none (d + 2) (fun _ M1 => FRL M M1 ∧ FOg g M1) 29 [some (.inr 50), some (.inl (nI c))] [] M1 := by
  have hN := cel_48 hk
  intro k
  induction k using Nat.strongRecOn with
  | _ k ih => ?_
  intro c M1 hkk hc hR hO
  have hs1 : hS g (M1 51) := by rw [hR.1 51 (by decide) (by decide)]; exact hs
  refine G_iload_n dX10_laysFields_29 rfl rfl ?_
  refine G_aload_n dX10_laysFields_30 rfl rfl ?_
  refine G_callVi (ν := uX10_cells) (As := []) dX10_laysFields_31 nX10_151 kX10_cells rfl rfl rfl rfl rfl (Nat.le_of_ble_eq_true rfl) (y_cells hs1 hk) ?_
  rintro _ M8 ⟨rfl, e9⟩
  subst M8
  refine Gn_icmp_ge (tgt := 103) dX10_laysFields_34 (by decide) (by omega) (by omega) (fun h34 => ?_) (fun h34 => ?_)
  · refine G_vret dX10_laysFields_103 rfl ?_
    have e : c = g 0 * g 1 := by omega
    subst e
    refine ⟨hR, ?_⟩
    unfold FOc at hO
    rw [lab_last hk] at hO
    exact hO
  · have hcN : c < g 0 * g 1 := by omega
    have hp48 := pl_g hk hcN
    have hL := lab_inv g (pl (g 0) c) (by omega)
    have hL1 := hL.1
    have hb9 := (hk.2.2.2.2.2 _ hp48).1
    refine G_aload_n dX10_laysFields_37 rfl rfl ?_
    refine G_getR (j := 58) dX10_laysFields_38 fX10_33 rfl rfl ?_
    refine G_iload_n dX10_laysFields_41 rfl rfl ?_
    refine G_iald (k := c) (v := (oI ((lab g (pl (g 0) c)).1 (pl (g 0) c)))) dX10_laysFields_42 rfl (vp_in_nI (by omega) (by omega)) (nI_clamp (by omega)) (hO.1 c hcN) ?_
    refine G_bipush (v := ((-9))) dX10_laysFields_43 (by decide) ?_
    refine G_icmp_ne (tgt := 97) dX10_laysFields_45 (by decide) (fun h45 => ?_) (fun h45 => ?_)
    · refine G_iinc (v := (nI (c + 1))) (L2 := [some (.inr 50), some (.inl (nI (c + 1)))]) dX10_laysFields_97 rfl (nI_1 _) rfl ?_
      refine G_goto (tgt := 29) dX10_laysFields_100 (by decide) ?_
      refine ih (g 0 * g 1 - (c + 1)) (by omega) (c + 1) _ rfl (by omega) hR ?_
      unfold FOc
      rw [← lab_step hk hcN, lab_old (fun q => h45 (by rw [q.2]; rfl))]
      exact hO
    · refine G_aload_n dX10_laysFields_48 rfl rfl ?_
      refine G_getR (j := 51) dX10_laysFields_49 fX10_7 rfl rfl ?_
      refine G_bipush (v := (nI 12)) dX10_laysFields_52 (by decide) ?_
      refine G_iload_n dX10_laysFields_54 rfl rfl ?_
      refine G_iadd (v := (nI (12 + c))) dX10_laysFields_55 (nI_add _ _) ?_
      refine G_iald (k := 12 + c) (v := (nI (g (12 + pl (g 0) c)))) dX10_laysFields_56 rfl (vp_in_nI (by omega) (by omega)) (nI_clamp (by omega)) (hs1.2 c hcN) ?_
      refine Gn_if_le (tgt := 97) dX10_laysFields_57 (by decide) (by omega) (fun h57 => ?_) (fun h57 => ?_)
      · refine G_iinc (v := (nI (c + 1))) (L2 := [some (.inr 50), some (.inl (nI (c + 1)))]) dX10_laysFields_97 rfl (nI_1 _) rfl ?_
        refine G_goto (tgt := 29) dX10_laysFields_100 (by decide) ?_
        refine ih (g 0 * g 1 - (c + 1)) (by omega) (c + 1) _ rfl (by omega) hR ?_
        unfold FOc
        rw [← lab_step hk hcN, lab_old (fun q => q.1 (by omega))]
        exact hO
      · have h45n : (lab g (pl (g 0) c)).1 (pl (g 0) c) = none := (oI_none (fun t h => by have := hL.2.1 _ t h; omega)).mp h45
        refine G_aload_n dX10_laysFields_60 rfl rfl ?_
        refine G_getR (j := 58) dX10_laysFields_61 fX10_33 rfl rfl ?_
        refine G_iload_n dX10_laysFields_64 rfl rfl ?_
        refine G_aload_n dX10_laysFields_65 rfl rfl ?_
        refine G_getI (v := (nI ((lab g (pl (g 0) c)).2.1))) dX10_laysFields_66 fX10_160 rfl rfl hO.2 ?_
        refine G_iast (k := c) (v := (nI ((lab g (pl (g 0) c)).2.1))) dX10_laysFields_69 rfl (vp_in_nI (by omega) (by omega)) (nI_clamp (by omega)) rfl ?_
        refine G_aload_n dX10_laysFields_70 rfl rfl ?_
        refine G_aload_n dX10_laysFields_71 rfl rfl ?_
        have hSP : SPI g (lab g (pl (g 0) c)).2.1 (pl (g 0) c) c (lab g (pl (g 0) c)).1 (fun x => decide (x = c)) (ms M1 58 c (nI (lab g (pl (g 0) c)).2.1)) := by
          refine ⟨fun x hx => ?_, fun x hx h => ?_, decide_eq_true rfl⟩
          · rw [ms_o]
            unfold upd FS
            by_cases e : x = c
            · rw [if_pos e, if_pos (decide_eq_true e)]; rfl
            · rw [if_neg e, if_neg (fun z => e (of_decide_eq_true z))]; exact hO.1 x hx
          · have := of_decide_eq_true h
            subst this
            exact conn_refl _
        refine G_getI (v := (nI ((lab g (pl (g 0) c)).2.1))) dX10_laysFields_72 fX10_160 rfl rfl (by rw [ms_q (by decide)]; exact hO.2) ?_
        refine G_aload_n dX10_laysFields_75 rfl rfl ?_
        refine G_getR (j := 51) dX10_laysFields_76 fX10_7 rfl rfl ?_
        refine G_bipush (v := (nI 12)) dX10_laysFields_79 (by decide) ?_
        refine G_iload_n dX10_laysFields_81 rfl rfl ?_
        refine G_iadd (v := (nI (12 + c))) dX10_laysFields_82 (nI_add _ _) ?_
        refine G_iald (k := 12 + c) (v := (nI (g (12 + pl (g 0) c)))) dX10_laysFields_83 rfl (vp_in_nI (by omega) (by omega)) (nI_clamp (by omega)) (by rw [ms_q (by decide)]; exact hs1.2 c hcN) ?_
        refine G_callVv (ν := uX10_spreads) (As := [.inl (nI ((lab g (pl (g 0) c)).2.1)), .inl (nI (g (12 + pl (g 0) c)))]) dX10_laysFields_84 nX10_163 kX10_spreads rfl rfl rfl rfl rfl (Nat.le_of_ble_eq_true rfl) (y_spreads (c0 := c) (n := (lab g (pl (g 0) c)).2.1) (F0 := (lab g (pl (g 0) c)).1) (by rw [ms_q (by decide)]; exact hs1) hk (by omega) hp48 (by omega) rfl hL.2.1 (LI_no hL hp48 h45n) hSP) ?_
        rintro _ M2 ⟨hR2, hO2⟩
        refine G_aload_n dX10_laysFields_87 rfl rfl ?_
        refine G_dup dX10_laysFields_88 ?_
        refine G_getI (v := (nI ((lab g (pl (g 0) c)).2.1))) dX10_laysFields_89 fX10_160 rfl rfl (by rw [hR2 50 (by decide), ms_q (by decide)]; exact hO.2) ?_
        refine G_iconst (v := (nI 1)) dX10_laysFields_92 (by decide) ?_
        refine G_iadd (v := (nI (((lab g (pl (g 0) c)).2.1) + 1))) dX10_laysFields_93 (nI_add _ _) ?_
        refine G_put dX10_laysFields_94 pX10_160 rfl rfl ?_
        refine G_iinc (v := (nI (c + 1))) (L2 := [some (.inr 50), some (.inl (nI (c + 1)))]) dX10_laysFields_97 rfl (nI_1 _) rfl ?_
        refine G_goto (tgt := 29) dX10_laysFields_100 (by decide) ?_
        refine ih (g 0 * g 1 - (c + 1)) (by omega) (c + 1) _ rfl (by omega) ⟨fun q a b => by rw [ms_q a, hR2 q b, ms_q b]; exact hR.1 q a b, fun j a => by rw [ms_o, upd_n a, hR2 50 (by decide), ms_q (by decide)]; exact hR.2 j a⟩ ?_
        unfold FOc
        rw [← lab_step hk hcN, lab_new (by omega) h45n]
        exact ⟨fun x hx => by rw [ms_q (by decide)]; exact hO2 x hx, by rw [ms_o]; exact upd_k⟩
theorem l_layN {d : Nat} {g : Nat → Nat} {M : Mem} (hs : hS g (M 51)) (hk : gok g) : ∀ k i : Nat, 48 - i = k → i ≤ 48 → G l α D cA uX10_laysFields none (d + 2) (fun _ M1 => FRL M M1 ∧ FOg g M1) 2 [some (.inr 50), some (.inl (nI i))] [] (mo M 58 (fil (M 58) i (-9))) := by
  intro k
  induction k using Nat.strongRecOn with
  | _ k ih => ?_
  intro i hkk hi
  refine G_iload_n dX10_laysFields_2 rfl rfl ?_
  refine G_bipush (v := (nI 48)) dX10_laysFields_3 (by decide) ?_
  refine Gn_icmp_ge (tgt := 22) dX10_laysFields_5 (by decide) (by omega) (by omega) (fun h5 => ?_) (fun h5 => ?_)
  · refine G_aload_n dX10_laysFields_22 rfl rfl ?_
    refine G_iconst (v := (nI 0)) dX10_laysFields_23 (by decide) ?_
    refine G_put dX10_laysFields_24 pX10_160 rfl rfl ?_
    refine G_iconst (v := (nI 0)) dX10_laysFields_27 (by decide) ?_
    refine G_istore_n (L2 := [some (.inr 50), some (.inl (nI 0))]) dX10_laysFields_28 rfl (Nat.le_of_ble_eq_true rfl) rfl ?_
    have e : i = 48 := by omega
    subst e
    have hN := cel_48 hk
    refine l_layF hs hk _ 0 _ rfl (Nat.zero_le _) ⟨fun q a b => by rw [ms_q a, mo_q b], fun j a => by rw [ms_o, upd_n a, mo_q (by decide)]⟩ ⟨fun c hc => ?_, by rw [ms_o]; exact upd_k.trans (by rw [show pl (g 0) 0 = 0 by unfold pl; rw [Nat.zero_div, Nat.zero_mod]]; rfl)⟩
    rw [ms_q (by decide), mo_o, fil_in (by omega), show pl (g 0) 0 = 0 by unfold pl; rw [Nat.zero_div, Nat.zero_mod]]
    rfl
  · refine G_aload_n dX10_laysFields_8 rfl rfl ?_
    refine G_getR (j := 58) dX10_laysFields_9 fX10_33 rfl rfl ?_
    refine G_iload_n dX10_laysFields_12 rfl rfl ?_
    refine G_bipush (v := ((-9))) dX10_laysFields_13 (by decide) ?_
    refine G_iast (k := i) (v := ((-9))) dX10_laysFields_15 rfl (vp_in_nI (by omega) (by omega)) (nI_clamp (by omega)) rfl ?_
    refine G_iinc (v := (nI (i + 1))) (L2 := [some (.inr 50), some (.inl (nI (i + 1)))]) dX10_laysFields_16 rfl (nI_1 _) rfl ?_
    refine G_goto (tgt := 2) dX10_laysFields_19 (by decide) ?_
    rw [fil_s]
    exact ih (48 - (i + 1)) (by omega) (i + 1) rfl (by omega)
theorem y_laysFields {d : Nat} {g : Nat → Nat} {M : Mem} (hs : hS g (M 51)) (hk : gok g) : Call l α D cA uX10_laysFields (d + 2) [.inr 50] M (fun _ M1 => FRL M M1 ∧ FOg g M1) := by
  refine Call.of kX10_laysFields.1 (Nat.le_of_ble_eq_true rfl) ?_
  refine G_iconst (v := (nI 0)) dX10_laysFields_0 (by decide) ?_
  refine G_istore_n (L2 := [some (.inr 50), some (.inl (nI 0))]) dX10_laysFields_1 rfl (Nat.le_of_ble_eq_true rfl) rfl ?_
  rw [← mo_self (M := M) (o := 58), ← fil_0 (f := M 58) (v := -9)]
  have h := l_layN (l := l) (α := α) (D := D) (cA := cA) (d := d) hs hk 48 0 rfl (by decide)
  rw [fil_0, mo_self] at h ⊢
  exact h
theorem FOg_lab {g : Nat → Nat} {c f : Nat} (hf : f < labN g) : oI (labF g (pl (g 0) c)) = nI f ↔ labF g (pl (g 0) c) = some f := by
  have hn := labN_48 (g := g)
  constructor
  · intro h
    cases hq : labF g (pl (g 0) c) with
    | none =>
      rw [hq] at h
      have h1 := nI_pos (show f < 2 ^ 31 by omega)
      have h : (-9 : Int32) = nI f := h
      rw [← h] at h1
      exact absurd (by decide) h1
    | some x =>
      rw [hq] at h
      have := labF_lt _ _ hq
      rw [(nI_eq (by omega) (by omega)).mp h]
  · intro h
    rw [h]
    rfl
theorem labR_in {g : Nat → Nat} (hk : gok g) {f : Nat} (hf : f < labN g) : ∃ c, c < g 0 * g 1 ∧ pl (g 0) c = labR g f ∧ c = numO g (labR g f) ∧ labF g (labR g f) = some f := by
  obtain ⟨h1, h2, h3, h4, h5⟩ := labF_inv g
  obtain ⟨a, b, c, e⟩ := h3 f hf
  obtain ⟨x, x1, x2⟩ := cel_of hk a b
  refine ⟨x, x1, x2, ?_, (c _).mpr (conn_refl _)⟩
  rw [← x2]
  exact (nm_pl hk.1.1 hk.1.2).symm
theorem labR_min {g : Nat → Nat} {f q : Nat} (hf : f < labN g) (h : labF g q = some f) : labR g f ≤ q := by
  obtain ⟨h1, h2, h3, h4, h5⟩ := labF_inv g
  exact (h3 f hf).2.2.2 q (((h3 f hf).2.2.1 q).mp h)
theorem l_lowest {d f : Nat} {g : Nat → Nat} {M : Mem} (hs : hS g (M 51)) (hk : gok g) (hO : FOg g M) (hf : f < labN g) : ∀ (k c : Nat), numO g (labR g f) - c = k → c ≤ numO g (labR g f) → G l α D cA uX10_lowestOf none d (fun r M1 => r = .inl (nI (numO g (labR g f))) ∧ M1 = M) 2 [some (.inr 50), some (.inl (nI f)), some (.inl (nI c))] [] M := by
  obtain ⟨x, x1, x2, x3, x4⟩ := labR_in hk hf
  have hN := cel_48 hk
  have hn := labN_48 (g := g)
  rw [← x3]
  intro k
  induction k using Nat.strongRecOn with
  | _ k ih => ?_
  intro c hkk hc
  refine G_aload_n dX10_lowestOf_2 rfl rfl ?_
  refine G_getR (j := 58) dX10_lowestOf_3 fX10_33 rfl rfl ?_
  refine G_iload_n dX10_lowestOf_6 rfl rfl ?_
  refine G_iald (k := c) (v := (oI (labF g (pl (g 0) c)))) dX10_lowestOf_7 rfl (vp_in_nI (by omega) (by omega)) (nI_clamp (by omega)) (hO.1 c (by omega)) ?_
  refine G_iload_n dX10_lowestOf_8 rfl rfl ?_
  refine G_icmp_eq (tgt := 18) dX10_lowestOf_9 (by decide) (fun h9 => ?_) (fun h9 => ?_)
  · refine G_iload_n dX10_lowestOf_18 rfl rfl ?_
    refine G_iret dX10_lowestOf_19 rfl rfl ?_
    have h9 := labR_min hf ((FOg_lab hf).mp h9)
    rw [← x2] at h9
    have : c = x := by
      rcases (show c < x ∨ c = x by omega) with y | y
      · have := pl_lt hk.1.1 hk.1.2 y
        omega
      · exact y
    exact ⟨by rw [this], rfl⟩
  · refine G_iinc (v := (nI (c + 1))) (L2 := [some (.inr 50), some (.inl (nI f)), some (.inl (nI (c + 1)))]) dX10_lowestOf_12 rfl (nI_1 _) rfl ?_
    refine G_goto (tgt := 2) dX10_lowestOf_15 (by decide) ?_
    have : c ≠ x := fun e => h9 (by subst e; rw [x2, x4]; rfl)
    exact ih (x - (c + 1)) (by omega) (c + 1) rfl (by omega)
theorem y_lowestOf {d f : Nat} {g : Nat → Nat} {M : Mem} (hs : hS g (M 51)) (hk : gok g) (hO : FOg g M) (hf : f < labN g) : Call l α D cA uX10_lowestOf d [.inr 50, .inl (nI f)] M (fun r M1 => r = .inl (nI (numO g (labR g f))) ∧ M1 = M) := by
  refine Call.of kX10_lowestOf.1 (Nat.le_of_ble_eq_true rfl) ?_
  refine G_iconst (v := (nI 0)) dX10_lowestOf_0 (by decide) ?_
  refine G_istore_n (L2 := [some (.inr 50), some (.inl (nI f)), some (.inl (nI 0))]) dX10_lowestOf_1 rfl (Nat.le_of_ble_eq_true rfl) rfl ?_
  exact l_lowest hs hk hO hf _ 0 rfl (Nat.zero_le _)
theorem y_colourOf {d f : Nat} {g : Nat → Nat} {M : Mem} (hs : hS g (M 51)) (hk : gok g) (hO : FOg g M) (hf : f < labN g) : Call l α D cA uX10_colourOf (d + 1) [.inr 50, .inl (nI f)] M (fun r M1 => r = .inl (nI (col g f)) ∧ M1 = M) := by
  refine Call.of kX10_colourOf.1 (Nat.le_of_ble_eq_true rfl) ?_
  obtain ⟨x, x1, x2, x3, x4⟩ := labR_in hk hf
  have hN := cel_48 hk
  refine G_aload_n dX10_colourOf_0 rfl rfl ?_
  refine G_getR (j := 51) dX10_colourOf_1 fX10_7 rfl rfl ?_
  refine G_bipush (v := (nI 12)) dX10_colourOf_4 (by decide) ?_
  refine G_aload_n dX10_colourOf_6 rfl rfl ?_
  refine G_iload_n dX10_colourOf_7 rfl rfl ?_
  refine G_callVi (ν := uX10_lowestOf) (As := [.inl (nI f)]) dX10_colourOf_8 nX10_166 kX10_lowestOf rfl rfl rfl rfl rfl (Nat.le_of_ble_eq_true rfl) (y_lowestOf hs hk hO hf) ?_
  rintro _ M8 ⟨rfl, e9⟩
  subst M8
  rw [← x3]
  refine G_iadd (v := (nI (12 + x))) dX10_colourOf_11 (nI_add _ _) ?_
  refine G_iald (k := 12 + x) (v := (nI (col g f))) dX10_colourOf_12 rfl (vp_in_nI (by omega) (by omega)) (nI_clamp (by omega)) ((hs.2 x x1).trans (by rw [x2]; rfl)) ?_
  refine G_iret dX10_colourOf_13 rfl rfl ?_
  exact ⟨rfl, rfl⟩
end P29
