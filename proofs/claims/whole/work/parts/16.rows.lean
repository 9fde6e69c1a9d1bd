/-! Rows and parts of a field (pure) -/
section P16
/-- rows so far: how many, their lines, first and last positions -/
abbrev RS : Type := Nat × (Nat → Nat) × (Nat → Nat) × (Nat → Nat)
def rstep (b was : Bool) (i p : Nat) (s : RS) : RS :=
  if b = true then (if was = true then (s.1, s.2.1, s.2.2.1, updN s.2.2.2 (s.1 - 1) p) else (s.1 + 1, updN s.2.1 s.1 i, updN s.2.2.1 s.1 p, updN s.2.2.2 s.1 p)) else s
/-- was the position before it one of the field -/
def wasC (c : Nat → Bool) (p : Nat) : Bool := decide (0 < p) && c (p - 1)
def rowP (c : Nat → Bool) (i : Nat) : Nat → RS → RS
  | 0, s => s
  | p + 1, s => rstep (c p) (wasC c p) i p (rowP c i p s)
def rowA (c : Nat → Nat → Bool) (ll : Nat) : Nat → RS
  | 0 => (0, fun _ => 0, fun _ => 0, fun _ => 0)
  | i + 1 => rowP (c i) i ll (rowA c ll i)
/-- the rows are in order, after lines below i and positions below p of line i -/
def RI (c : Nat → Nat → Bool) (ll i p : Nat) (s : RS) : Prop :=
  s.1 ≤ ll * i + p ∧ (∀ r, r < s.1 → s.2.1 r ≤ i ∧ s.2.2.1 r ≤ s.2.2.2 r ∧ s.2.2.2 r < ll ∧ (s.2.1 r = i → s.2.2.2 r < p) ∧ c (s.2.1 r) (s.2.2.1 r) = true ∧ c (s.2.1 r) (s.2.2.2 r) = true) ∧ (∀ r r', r ≤ r' → r' < s.1 → s.2.1 r ≤ s.2.1 r') ∧ (wasC (c i) p = true → 1 ≤ s.1 ∧ s.2.1 (s.1 - 1) = i)
theorem RI_step {c : Nat → Nat → Bool} {ll i p : Nat} {s : RS} (h : RI c ll i p s) (hp : p < ll) : RI c ll i (p + 1) (rstep (c i p) (wasC (c i) p) i p s) := by
  obtain ⟨n, a, b, e⟩ := s
  obtain ⟨h1, h2, h3, h4⟩ := h
  dsimp only at h1 h2 h3 h4
  have hw : wasC (c i) (p + 1) = c i p := by simp [wasC]
  unfold rstep
  cases hc : c i p with
  | false =>
    rw [if_neg (by decide)]
    refine ⟨by show n ≤ _; omega, fun r hr => ?_, h3, fun z => by rw [hw, hc] at z; cases z⟩
    obtain ⟨x1, x2, x3, x4, x5⟩ := h2 r hr
    exact ⟨x1, x2, x3, fun z => Nat.lt_succ_of_lt (x4 z), x5⟩
  | true =>
    rw [if_pos rfl]
    cases hz : wasC (c i) p with
    | true =>
      rw [if_pos rfl]
      obtain ⟨y1, y2⟩ := h4 hz
      refine ⟨by show n ≤ _; omega, fun r hr => ?_, h3, fun _ => ⟨y1, y2⟩⟩
      have hr : r < n := hr
      obtain ⟨x1, x2, x3, x4, x5, x6⟩ := h2 r hr
      by_cases q : r = n - 1
      · subst q
        dsimp only
        rw [updN_k]
        refine ⟨x1, ?_, hp, fun _ => by omega, x5, by rw [y2]; exact hc⟩
        have := x4 y2
        omega
      · dsimp only
        rw [updN_n q]
        exact ⟨x1, x2, x3, fun z => Nat.lt_succ_of_lt (x4 z), x5, x6⟩
    | false =>
      rw [if_neg (by decide)]
      refine ⟨by show n + 1 ≤ _; omega, fun r hr => ?_, fun r r' hrr hr' => ?_, fun _ => ⟨by show 1 ≤ n + 1; omega, ?_⟩⟩
      · have hr : r < n + 1 := hr
        dsimp only
        by_cases q : r = n
        · subst q
          rw [updN_k, updN_k, updN_k]
          exact ⟨Nat.le_refl _, Nat.le_refl _, hp, fun _ => by omega, hc, hc⟩
        · rw [updN_n q, updN_n q, updN_n q]
          obtain ⟨x1, x2, x3, x4, x5⟩ := h2 r (by omega)
          exact ⟨x1, x2, x3, fun z => Nat.lt_succ_of_lt (x4 z), x5⟩
      · have hr' : r' < n + 1 := hr'
        dsimp only
        by_cases q : r' = n
        · subst q
          rw [updN_k]
          by_cases q2 : r = r'
          · subst q2
            rw [updN_k]
            exact Nat.le_refl _
          · rw [updN_n q2]
            exact (h2 r (by omega)).1
        · rw [updN_n q, updN_n (by omega)]
          exact h3 r r' hrr (by omega)
      · show updN a n i (n + 1 - 1) = i
        rw [Nat.add_sub_cancel, updN_k]
theorem RI_P {c : Nat → Nat → Bool} {ll i : Nat} {s : RS} (h : RI c ll i 0 s) : ∀ p, p ≤ ll → RI c ll i p (rowP (c i) i p s) := by
  intro p
  induction p with
  | zero => intro _; exact h
  | succ p ih => intro hp; exact RI_step (ih (by omega)) (by omega)
theorem RI_line {c : Nat → Nat → Bool} {ll i : Nat} {s : RS} (h : RI c ll i ll s) : RI c ll (i + 1) 0 s := by
  obtain ⟨h1, h2, h3, h4⟩ := h
  refine ⟨by rw [Nat.mul_succ]; omega, fun r hr => ?_, h3, fun z => by simp [wasC] at z⟩
  obtain ⟨x1, x2, x3, x4, x5⟩ := h2 r hr
  exact ⟨by omega, x2, x3, fun z => by omega, x5⟩
theorem RI_A {c : Nat → Nat → Bool} {ll : Nat} : ∀ i, RI c ll i 0 (rowA c ll i) := by
  intro i
  induction i with
  | zero => exact ⟨Nat.zero_le _, fun r hr => absurd hr (Nat.not_lt_zero _), fun r r' _ hr => absurd hr (Nat.not_lt_zero _), fun z => by simp [wasC] at z⟩
  | succ i ih => exact RI_line (RI_P ih ll (Nat.le_refl _))
/-- row r is next to row b -/
def NX (s : RS) (r b : Nat) : Prop := s.2.1 r = s.2.1 b + 1 ∧ s.2.2.1 r ≤ s.2.2.2 b ∧ s.2.2.1 b ≤ s.2.2.2 r
/-- row b is continued by row r -/
def CN (s : RS) (r b : Nat) : Prop := NX s r b ∧ (∀ b', b' < s.1 → NX s r b' → b' = b) ∧ ∀ r', r' < s.1 → NX s r' b → r' = r
theorem NX_lt {s : RS} (h : ∀ r r', r ≤ r' → r' < s.1 → s.2.1 r ≤ s.2.1 r') {r b : Nat} (hb : b < s.1) (h2 : NX s r b) : b < r := by
  rcases Nat.lt_or_ge b r with q | q
  · exact q
  · have := h r b q hb
    have := h2.1
    omega
def fnd (P : Nat → Bool) : Nat → Option Nat
  | 0 => none
  | k + 1 => match fnd P k with
    | some b => some b
    | none => if P k = true then some k else none
theorem fnd_some {P : Nat → Bool} {b : Nat} : ∀ {n : Nat}, fnd P n = some b → b < n ∧ P b = true := by
  intro n
  induction n with
  | zero => intro h; cases h
  | succ n ih =>
    intro h
    rw [fnd] at h
    cases hz : fnd P n with
    | some x =>
      rw [hz] at h
      cases h
      have := ih hz
      exact ⟨by omega, this.2⟩
    | none =>
      rw [hz] at h
      dsimp only at h
      by_cases q : P n = true
      · rw [if_pos q] at h
        cases h
        exact ⟨by omega, q⟩
      · rw [if_neg q] at h
        cases h
theorem fnd_none {P : Nat → Bool} : ∀ {n : Nat}, fnd P n = none → ∀ b, b < n → ¬ P b = true := by
  intro n
  induction n with
  | zero => intro _ b hb; exact absurd hb (Nat.not_lt_zero _)
  | succ n ih =>
    intro h b hb
    rw [fnd] at h
    cases hz : fnd P n with
    | some x => rw [hz] at h; cases h
    | none =>
      rw [hz] at h
      dsimp only at h
      rcases (show b < n ∨ b = n by omega) with y | y
      · exact ih hz b y
      · subst y
        intro q
        rw [if_pos q] at h
        cases h
/-- the row that row r continues -/
noncomputable def prd (s : RS) (r : Nat) : Option Nat := fnd (fun b => dec (CN s r b)) s.1
theorem prd_some {s : RS} {r b : Nat} (h : prd s r = some b) : b < s.1 ∧ CN s r b := ⟨(fnd_some h).1, dec_iff.mp (fnd_some h).2⟩
theorem prd_is {s : RS} {r b : Nat} (hb : b < s.1) (h : CN s r b) : prd s r = some b := by
  cases hz : prd s r with
  | none => exact absurd (dec_t h) (fnd_none hz b hb)
  | some x =>
    obtain ⟨h1, h2⟩ := prd_some hz
    rw [h.2.1 x h1 h2.1]
theorem prd_no {s : RS} {r : Nat} (h : ∀ b, b < s.1 → ¬ CN s r b) : prd s r = none := by
  cases hz : prd s r with
  | none => rfl
  | some x =>
    obtain ⟨h1, h2⟩ := prd_some hz
    exact absurd h2 (h x h1)
/-- parts so far: how many, a row's part, a part's first and last row, its size -/
abbrev PS : Type := Nat × (Nat → Nat) × (Nat → Nat) × (Nat → Nat) × (Nat → Nat)
def parS (q : Nat → Option Nat) : Nat → PS
  | 0 => (0, fun _ => 0, fun _ => 0, fun _ => 0, fun _ => 0)
  | r + 1 => match q r with
    | none => ((parS q r).1 + 1, updN (parS q r).2.1 r (parS q r).1, updN (parS q r).2.2.1 (parS q r).1 r, updN (parS q r).2.2.2.1 (parS q r).1 r, updN (parS q r).2.2.2.2 (parS q r).1 1)
    | some b => ((parS q r).1, updN (parS q r).2.1 r ((parS q r).2.1 b), (parS q r).2.2.1, updN (parS q r).2.2.2.1 ((parS q r).2.1 b) r, updN (parS q r).2.2.2.2 ((parS q r).2.1 b) ((parS q r).2.2.2.2 ((parS q r).2.1 b) + 1))
/-- the parts are in order, after r rows -/
def PI (r : Nat) (s : PS) : Prop := s.1 ≤ r ∧ (∀ j, j < r → s.2.1 j < s.1) ∧ (∀ p, p < s.1 → s.2.2.1 p < r ∧ s.2.2.2.1 p < r ∧ s.2.2.2.2 p ≤ r ∧ 1 ≤ s.2.2.2.2 p ∧ s.2.1 (s.2.2.1 p) = p)
theorem PI_S {q : Nat → Option Nat} (hq : ∀ r b, q r = some b → b < r) : ∀ r, PI r (parS q r) := by
  intro r
  induction r with
  | zero => exact ⟨Nat.le_refl _, fun j hj => absurd hj (Nat.not_lt_zero _), fun p hp => absurd hp (Nat.not_lt_zero _)⟩
  | succ r ih =>
    rw [parS]
    generalize parS q r = s at ih
    obtain ⟨n, a, b, c, d⟩ := s
    obtain ⟨h1, h2, h3⟩ := ih
    dsimp only at h1 h2 h3
    cases hz : q r with
    | none =>
      refine ⟨by show n + 1 ≤ r + 1; omega, fun j hj => ?_, fun p hp => ?_⟩
      · show updN a r n j < n + 1
        by_cases y : j = r
        · rw [y, updN_k]; omega
        · rw [updN_n y]
          have := h2 j (by omega)
          omega
      · have hp : p < n + 1 := hp
        show updN b n r p < r + 1 ∧ updN c n r p < r + 1 ∧ updN d n 1 p ≤ r + 1 ∧ 1 ≤ updN d n 1 p ∧ updN a r n (updN b n r p) = p
        by_cases y : p = n
        · subst y
          rw [updN_k, updN_k, updN_k, updN_k]
          exact ⟨by omega, by omega, by omega, Nat.le_refl _, rfl⟩
        · rw [updN_n y, updN_n y, updN_n y]
          obtain ⟨x1, x2, x3, x4, x5⟩ := h3 p (by omega)
          rw [updN_n (by omega)]
          exact ⟨by omega, by omega, by omega, x4, x5⟩
    | some e =>
      have he := hq r e hz
      have hae := h2 e he
      refine ⟨by show n ≤ r + 1; omega, fun j hj => ?_, fun p hp => ?_⟩
      · show updN a r (a e) j < n
        by_cases y : j = r
        · rw [y, updN_k]; exact hae
        · rw [updN_n y]
          exact h2 j (by omega)
      · have hp : p < n := hp
        obtain ⟨x1, x2, x3, x4, x5⟩ := h3 p hp
        show b p < r + 1 ∧ updN c (a e) r p < r + 1 ∧ updN d (a e) (d (a e) + 1) p ≤ r + 1 ∧ 1 ≤ updN d (a e) (d (a e) + 1) p ∧ updN a r (a e) (b p) = p
        rw [updN_n (show b p ≠ r by omega)]
        by_cases y : p = a e
        · subst y
          rw [updN_k, updN_k]
          exact ⟨by omega, by omega, by omega, by omega, x5⟩
        · rw [updN_n y, updN_n y]
          exact ⟨by omega, by omega, by omega, x4, x5⟩
end P16
