/-! The fields' numbers (pure): scanning the places in their order -/
section P14
noncomputable def lab (g : Nat → Nat) : Nat → (Nat → Option Nat) × Nat × (Nat → Nat)
  | 0 => (fun _ => none, 0, fun _ => 0)
  | p + 1 => if g (12 + p) ≠ 0 ∧ (lab g p).1 p = none then (fun q => if dec (conn g p q) = true then some (lab g p).2.1 else (lab g p).1 q, (lab g p).2.1 + 1, updN (lab g p).2.2 (lab g p).2.1 p) else lab g p
noncomputable def labF (g : Nat → Nat) : Nat → Option Nat := (lab g 48).1
noncomputable def labN (g : Nat → Nat) : Nat := (lab g 48).2.1
noncomputable def labR (g : Nat → Nat) : Nat → Nat := (lab g 48).2.2
theorem lab_new {g : Nat → Nat} {p : Nat} (h : g (12 + p) ≠ 0) (h2 : (lab g p).1 p = none) : lab g (p + 1) = (fun q => if dec (conn g p q) = true then some (lab g p).2.1 else (lab g p).1 q, (lab g p).2.1 + 1, updN (lab g p).2.2 (lab g p).2.1 p) := by
  rw [lab, if_pos ⟨h, h2⟩]
theorem lab_old {g : Nat → Nat} {p : Nat} (h : ¬ (g (12 + p) ≠ 0 ∧ (lab g p).1 p = none)) : lab g (p + 1) = lab g p := by
  rw [lab, if_neg h]
/-- the state of a scan is in order -/
def LI (g : Nat → Nat) (p : Nat) (F : Nat → Option Nat) (n : Nat) (r : Nat → Nat) : Prop :=
  n ≤ p ∧ (∀ q f, F q = some f → f < n) ∧ (∀ f, f < n → r f < p ∧ g (12 + r f) ≠ 0 ∧ (∀ q, F q = some f ↔ conn g (r f) q) ∧ ∀ q, conn g (r f) q → r f ≤ q) ∧ (∀ q, q < p → g (12 + q) ≠ 0 → ∃ f, F q = some f) ∧ (∀ f f', f < f' → f' < n → r f < r f')
theorem conn_col {g : Nat → Nat} {p q : Nat} (h : conn g p q) : g (12 + q) = g (12 + p) := by
  obtain ⟨n, h⟩ := h
  exact rch_col h
theorem conn_lt {g : Nat → Nat} {p q : Nat} (hp : p < 48) (h : conn g p q) : q < 48 := by
  obtain ⟨n, h⟩ := h
  exact rch_lt hp h
theorem lab_inv (g : Nat → Nat) : ∀ p, p ≤ 48 → LI g p (lab g p).1 (lab g p).2.1 (lab g p).2.2 := by
  intro p
  induction p with
  | zero =>
    intro _
    exact ⟨Nat.le_refl _, fun q f h => (by cases h), fun f h => absurd h (Nat.not_lt_zero _), fun q h => absurd h (Nat.not_lt_zero _), fun f f' _ h => absurd h (Nat.not_lt_zero _)⟩
  | succ p ih =>
    intro hp
    have ihp := ih (by omega)
    generalize hs : lab g p = s at ihp
    obtain ⟨F, n, r⟩ := s
    obtain ⟨h1, h2, h3, h4, h5⟩ := ihp
    dsimp only at h1 h2 h3 h4 h5
    by_cases hc : g (12 + p) ≠ 0 ∧ F p = none
    · rw [lab_new hc.1 (by rw [hs]; exact hc.2), hs]
      dsimp only
      generalize hF : (fun q => if dec (conn g p q) = true then some n else F q) = F'
      have e1 : ∀ q, dec (conn g p q) = true → F' q = some n := fun q z => by rw [← hF]; exact if_pos z
      have e2 : ∀ q, ¬ dec (conn g p q) = true → F' q = F q := fun q z => by rw [← hF]; exact if_neg z
      have hno : ∀ q f, F q = some f → ¬ conn g p q := fun q f hq hcn => by
        have hf := h2 q f hq
        have a := ((h3 f hf).2.2.1 q).mp hq
        have b := conn_trans a (conn_symm (by omega) hcn)
        have c := ((h3 f hf).2.2.1 p).mpr b
        rw [hc.2] at c
        cases c
      refine ⟨by omega, fun q f hq => ?_, fun f hf => ?_, fun q hq hq0 => ?_, fun f f' hff hf' => ?_⟩
      · by_cases z : dec (conn g p q) = true
        · rw [e1 q z] at hq
          cases hq
          omega
        · rw [e2 q z] at hq
          have := h2 q f hq
          omega
      · rcases (show f < n ∨ f = n by omega) with z | z
        · rw [updN_n (by omega)]
          obtain ⟨a, b, c, e⟩ := h3 f z
          refine ⟨by omega, b, fun q => ?_, e⟩
          by_cases y : dec (conn g p q) = true
          · rw [e1 q y]
            constructor
            · intro h
              cases h
              omega
            · intro h
              exact absurd (dec_iff.mp y) (hno q f ((c q).mpr h))
          · rw [e2 q y]
            exact c q
        · subst z
          rw [updN_k]
          refine ⟨by omega, hc.1, fun q => ?_, fun q hq => ?_⟩
          · by_cases y : dec (conn g p q) = true
            · rw [e1 q y]
              exact ⟨fun _ => dec_iff.mp y, fun _ => rfl⟩
            · rw [e2 q y]
              constructor
              · intro h
                have := h2 q f h
                omega
              · intro h
                exact absurd (dec_t h) y
          · rcases Nat.lt_or_ge q p with y | y
            · obtain ⟨f2, hf2⟩ := h4 q y (by rw [conn_col hq]; exact hc.1)
              exact absurd hq (hno q f2 hf2)
            · exact y
      · by_cases z : dec (conn g p q) = true
        · exact ⟨n, e1 q z⟩
        · rw [e2 q z]
          rcases (show q < p ∨ q = p by omega) with y | y
          · exact h4 q y hq0
          · subst y
            exact absurd (dec_t (conn_refl q)) z
      · rw [updN_n (show f ≠ n by omega)]
        rcases (show f' < n ∨ f' = n by omega) with z | z
        · rw [updN_n (by omega)]
          exact h5 f f' hff z
        · subst z
          rw [updN_k]
          exact (h3 f hff).1
    · rw [lab_old (by rw [hs]; exact hc), hs]
      dsimp only
      refine ⟨by omega, h2, fun f hf => ?_, fun q hq hq0 => ?_, h5⟩
      · obtain ⟨a, b⟩ := h3 f hf
        exact ⟨by omega, b⟩
      · rcases (show q < p ∨ q = p by omega) with y | y
        · exact h4 q y hq0
        · subst y
          cases hz : F q with
          | none => exact absurd ⟨hq0, hz⟩ hc
          | some f => exact ⟨f, rfl⟩
theorem labF_inv (g : Nat → Nat) : LI g 48 (labF g) (labN g) (labR g) := lab_inv g 48 (Nat.le_refl _)
/-- a count by an enumeration -/
theorem ct_enum {m : Nat} : ∀ (n : Nat) (R : Nat → Nat) (P : Nat → Bool), (∀ j, j < n → R j < m ∧ P (R j) = true) → (∀ j k, j < n → k < n → R j = R k → j = k) → (∀ q, q < m → P q = true → ∃ j, j < n ∧ R j = q) → fb_ct P m = n := by
  intro n
  induction n with
  | zero =>
    intro R P h1 h2 h3
    refine fb_ct_zero.mpr (fun k hk => ?_)
    cases hz : P k with
    | false => rfl
    | true =>
      obtain ⟨j, hj, -⟩ := h3 k hk hz
      exact absurd hj (Nat.not_lt_zero _)
  | succ n ih =>
    intro R P h1 h2 h3
    have hu := fb_ct_upd P false (h1 n (by omega)).1
    rw [(h1 n (by omega)).2] at hu
    have := ih R (fun k => if k = R n then false else P k) (fun j hj => ⟨(h1 j (by omega)).1, by
      rw [if_neg (fun e => by have := h2 j n (by omega) (by omega) e; omega)]
      exact (h1 j (by omega)).2⟩) (fun j k hj hk => h2 j k (by omega) (by omega)) (fun q hq hP => by
      by_cases e : q = R n
      · rw [if_pos e] at hP
        cases hP
      · rw [if_neg e] at hP
        obtain ⟨j, hj, hjq⟩ := h3 q hq hP
        exact ⟨j, by
          rcases (show j < n ∨ j = n by omega) with z | z
          · exact z
          · subst z
            exact absurd hjq.symm e, hjq⟩)
    rw [if_pos rfl, if_neg (by decide)] at hu
    omega
end P14
