/-! Cells beside one another, ways within a colour, and the invariant of a wave (pure) -/
section P12
/-- q lies beside p, and has p's colour, which is no bare one -/
def adjc (g : Nat → Nat) (p q : Nat) : Prop := g (12 + p) ≠ 0 ∧ g (12 + q) = g (12 + p) ∧ ∃ s, s < 4 ∧ nbr p s = some q
/-- q is reached from p in at most n steps -/
def rch (g : Nat → Nat) : Nat → Nat → Nat → Prop
  | 0, p, q => p = q
  | n + 1, p, q => rch g n p q ∨ ∃ r, rch g n p r ∧ adjc g r q
def isd (g : Nat → Nat) (n p q : Nat) : Prop := rch g n p q ∧ ∀ m, m < n → ¬ rch g m p q
def conn (g : Nat → Nat) (p q : Nat) : Prop := ∃ n, rch g n p q
theorem rch_succ {g : Nat → Nat} {n p q : Nat} (h : rch g n p q) : rch g (n + 1) p q := Or.inl h
theorem rch_mono {g : Nat → Nat} {p q m : Nat} : ∀ {n : Nat}, m ≤ n → rch g m p q → rch g n p q := by
  intro n
  induction n with
  | zero =>
    intro h1 h2
    have e : m = 0 := by omega
    subst e
    exact h2
  | succ n ih =>
    intro h1 h2
    rcases (show m ≤ n ∨ m = n + 1 by omega) with h | h
    · exact Or.inl (ih h h2)
    · subst h
      exact h2
theorem rch_col {g : Nat → Nat} {p q : Nat} : ∀ {n : Nat}, rch g n p q → g (12 + q) = g (12 + p) := by
  intro n
  induction n generalizing q with
  | zero =>
    intro h
    have e : p = q := h
    rw [e]
  | succ n ih =>
    intro h
    rcases h with h | ⟨r, h1, h2⟩
    · exact ih h
    · exact h2.2.1.trans (ih h1)
theorem adjc_lt {g : Nat → Nat} {p q : Nat} (hp : p < 48) (h : adjc g p q) : q < 48 := by
  obtain ⟨-, -, s, -, h⟩ := h
  exact nbr_lt hp h
theorem rch_lt {g : Nat → Nat} {p q : Nat} (hp : p < 48) : ∀ {n : Nat}, rch g n p q → q < 48 := by
  intro n
  induction n generalizing q with
  | zero =>
    intro h
    have e : p = q := h
    rw [← e]
    exact hp
  | succ n ih =>
    intro h
    rcases h with h | ⟨r, h1, h2⟩
    · exact ih h
    · exact adjc_lt (ih h1) h2
theorem isd_one {g : Nat → Nat} {m n p q : Nat} (h1 : isd g m p q) (h2 : isd g n p q) : m = n := by
  rcases Nat.lt_trichotomy m n with h | h | h
  · exact absurd h1.1 (h2.2 m h)
  · exact h
  · exact absurd h2.1 (h1.2 n h)
theorem conn_isd {g : Nat → Nat} {p q : Nat} (h : conn g p q) : ∃ n, isd g n p q := by
  obtain ⟨n, h⟩ := h
  obtain ⟨k, hk, hk2⟩ := pk_least (fun n => rch g n p q) ⟨n, h⟩
  exact ⟨k, hk, hk2⟩
theorem nbr_back {p q : Nat} (hp : p < 48) : ∀ s, s < 4 → nbr p s = some q → nbr q (3 - s) = some p := by
  intro s hs h
  rcases (show s = 0 ∨ s = 1 ∨ s = 2 ∨ s = 3 by omega) with rfl | rfl | rfl | rfl
  · simp only [nbr] at h
    split at h
    · cases h
      show nbr (p - 8) 3 = some p
      simp only [nbr]
      rw [if_pos (by omega)]
      congr 1
      omega
    · cases h
  · simp only [nbr] at h
    split at h
    · cases h
      show nbr (p - 1) 2 = some p
      simp only [nbr]
      rw [if_pos (by omega)]
      congr 1
      omega
    · cases h
  · simp only [nbr] at h
    split at h
    · cases h
      show nbr (p + 1) 1 = some p
      simp only [nbr]
      rw [if_pos (by omega)]
      congr 1
    · cases h
  · simp only [nbr] at h
    split at h
    · cases h
      show nbr (p + 8) 0 = some p
      simp only [nbr]
      rw [if_pos (by omega)]
      congr 1
    · cases h
theorem adjc_back {g : Nat → Nat} {p q : Nat} (hp : p < 48) (h : adjc g p q) : adjc g q p := by
  obtain ⟨h1, h2, s, h3, h4⟩ := h
  exact ⟨by rw [h2]; exact h1, h2.symm, 3 - s, by omega, nbr_back hp s h3 h4⟩
theorem rch_trans {g : Nat → Nat} {m p q r : Nat} (h1 : rch g m p q) : ∀ {n : Nat}, rch g n q r → rch g (m + n) p r := by
  intro n
  induction n generalizing r with
  | zero =>
    intro h
    have e : q = r := h
    rw [← e]
    exact h1
  | succ n ih =>
    intro h
    rcases h with h | ⟨x, h2, h3⟩
    · exact Or.inl (ih h)
    · exact Or.inr ⟨x, ih h2, h3⟩
theorem rch_step {g : Nat → Nat} {p q : Nat} (h : adjc g p q) : rch g 1 p q := Or.inr ⟨p, rfl, h⟩
theorem conn_refl {g : Nat → Nat} (p : Nat) : conn g p p := ⟨0, rfl⟩
theorem conn_trans {g : Nat → Nat} {p q r : Nat} (h1 : conn g p q) (h2 : conn g q r) : conn g p r := by
  obtain ⟨m, h1⟩ := h1
  obtain ⟨n, h2⟩ := h2
  exact ⟨m + n, rch_trans h1 h2⟩
theorem conn_symm {g : Nat → Nat} {p q : Nat} (hp : p < 48) (h : conn g p q) : conn g q p := by
  obtain ⟨n, h⟩ := h
  induction n generalizing q with
  | zero =>
    have e : p = q := h
    rw [← e]
    exact conn_refl p
  | succ n ih =>
    rcases h with h | ⟨r, h1, h2⟩
    · exact ih h
    · exact conn_trans ⟨1, rch_step (adjc_back (rch_lt hp h1) h2)⟩ (ih h1)
/-- the wave's invariant: from f, at queue place i, sides below s done; n reached: R, their steps D, T the steps of a place -/
def BI (g : Nat → Nat) (f i s n : Nat) (R D : Nat → Nat) (T : Nat → Option Nat) : Prop :=
  (n ≤ 48 ∧ i ≤ n ∧ T f = some 0 ∧ f < 48 ∧ g (12 + f) ≠ 0) ∧ (∀ j, j < n → R j < 48 ∧ g (12 + R j) = g (12 + f) ∧ T (R j) = some (D j)) ∧ (∀ q t, T q = some t → q < 48 ∧ rch g t f q ∧ ∃ j, j < n ∧ R j = q) ∧
  (∀ j k, j ≤ k → k < n → D j ≤ D k ∧ D k ≤ k) ∧ (i < n → ∀ k, k < n → D k ≤ D i + 1) ∧ (∀ j, j < i → ∀ q, adjc g (R j) q → ∃ t, T q = some t ∧ t ≤ D j + 1) ∧ (i < n → ∀ s', s' < s → ∀ q, nbr (R i) s' = some q → g (12 + q) = g (12 + f) → ∃ t, T q = some t ∧ t ≤ D i + 1) ∧ (∀ j k, j < n → k < n → R j = R k → j = k)
theorem BI_start {g : Nat → Nat} {f : Nat} (hf : f < 48) (hc : g (12 + f) ≠ 0) : BI g f 0 0 1 (fun _ => f) (fun _ => 0) (fun q => if q = f then some 0 else none) := by
  refine ⟨⟨by omega, by omega, by simp, hf, hc⟩, fun j hj => ⟨hf, rfl, by simp⟩, fun q t h => ?_, fun _ _ _ _ => ⟨Nat.le_refl _, Nat.zero_le _⟩, fun _ _ _ => Nat.zero_le _, fun j hj => absurd hj (Nat.not_lt_zero _), fun _ s' hs => absurd hs (Nat.not_lt_zero _), fun j k hj hk _ => by omega⟩
  have h : (if q = f then some 0 else none) = some t := h
  by_cases e : q = f
  · subst e
    rw [if_pos rfl] at h
    cases h
    exact ⟨hf, rfl, 0, by omega, rfl⟩
  · rw [if_neg e] at h
    cases h
theorem BI_skip {g : Nat → Nat} {f i s n : Nat} {R D : Nat → Nat} {T : Nat → Option Nat} (h : BI g f i s n R D T) (hi : i < n) (hq : ∀ q, nbr (R i) s = some q → g (12 + q) = g (12 + f) → ∃ t, T q = some t) : BI g f i (s + 1) n R D T := by
  obtain ⟨h1, h2, h3, h4, h5, h6, h7, h8⟩ := h
  refine ⟨h1, h2, h3, h4, h5, h6, fun _ s' hs q e c => ?_, h8⟩
  rcases (show s' < s ∨ s' = s by omega) with z | z
  · exact h7 hi s' z q e c
  · subst z
    obtain ⟨t, ht⟩ := hq q e c
    obtain ⟨-, -, j, hj, rfl⟩ := h3 q t ht
    have := (h2 j hj).2.2
    rw [ht] at this
    cases this
    exact ⟨_, ht, h5 hi j hj⟩
theorem BI_room {g : Nat → Nat} {f i s n q : Nat} {R D : Nat → Nat} {T : Nat → Option Nat} (h : BI g f i s n R D T) (hq : q < 48) (hn : T q = none) : n < 48 := by
  obtain ⟨h1, h2, h3, h4, h5, h6, h7, h8⟩ := h
  have := fb_holes 48 (n + 1) (fun j => if j < n then R j else q) (fun j hj => by
    by_cases z : j < n
    · simp only [if_pos z]
      exact (h2 j z).1
    · simp only [if_neg z]
      exact hq) (fun a b hab hb => by
    by_cases z : b < n
    · simp only [if_pos z, if_pos (show a < n by omega)]
      intro e
      have := h8 a b (by omega) z e
      omega
    · simp only [if_neg z, if_pos (show a < n by omega)]
      intro e
      have := (h2 a (by omega)).2.2
      rw [e, hn] at this
      cases this)
  omega
def updN (f : Nat → Nat) (k v : Nat) : Nat → Nat := fun j => if j = k then v else f j
def updO (f : Nat → Option Nat) (k v : Nat) : Nat → Option Nat := fun j => if j = k then some v else f j
theorem updN_k {f : Nat → Nat} {k v : Nat} : updN f k v k = v := if_pos rfl
theorem updN_n {f : Nat → Nat} {k v j : Nat} (h : j ≠ k) : updN f k v j = f j := if_neg h
theorem BI_reach {g : Nat → Nat} {f i s n q : Nat} {R D : Nat → Nat} {T : Nat → Option Nat} (h : BI g f i s n R D T) (hi : i < n) (hs : s < 4) (hq : nbr (R i) s = some q) (hc : g (12 + q) = g (12 + f)) (hn : T q = none) : BI g f i (s + 1) (n + 1) (updN R n q) (updN D n (D i + 1)) (updO T q (D i + 1)) := by
  have hroom := BI_room h (nbr_lt ((h.2.1 i hi).1) hq) hn
  have hq48 := nbr_lt ((h.2.1 i hi).1) hq
  obtain ⟨h1, h2, h3, h4, h5, h6, h7, h8⟩ := h
  have hne : ∀ j, j < n → R j ≠ q := fun j hj e => by
    have := (h2 j hj).2.2
    rw [e, hn] at this
    cases this
  have hT : ∀ x t, T x = some t → updO T q (D i + 1) x = some t := fun x t hx => by
    have : x ≠ q := fun e => by rw [e, hn] at hx; cases hx
    unfold updO
    rw [if_neg this]
    exact hx
  have hD : ∀ j, j < n → updN D n (D i + 1) j = D j := fun j hj => updN_n (by omega)
  have hR : ∀ j, j < n → updN R n q j = R j := fun j hj => updN_n (by omega)
  have hDn : updN D n (D i + 1) n = D i + 1 := updN_k
  have hRn : updN R n q n = q := updN_k
  refine ⟨⟨by omega, by omega, hT f 0 h1.2.2.1, h1.2.2.2⟩, fun j hj => ?_, fun x t hx => ?_, fun j k hjk hk => ?_, fun _ k hk => ?_, fun j hj x hx => ?_, fun _ s' hs' x hx hcx => ?_, fun j k hj hk e => ?_⟩
  · rcases (show j < n ∨ j = n by omega) with z | z
    · rw [hR j z, hD j z]
      exact ⟨(h2 j z).1, (h2 j z).2.1, hT _ _ (h2 j z).2.2⟩
    · subst z
      rw [hRn, hDn]
      exact ⟨hq48, hc, if_pos rfl⟩
  · unfold updO at hx
    by_cases e : x = q
    · rw [if_pos e] at hx
      cases hx
      subst e
      refine ⟨hq48, Or.inr ⟨R i, (h3 _ _ (h2 i hi).2.2).2.1, ?_, ?_, s, hs, hq⟩, n, by omega, hRn⟩
      · rw [(h2 i hi).2.1]
        exact h1.2.2.2.2
      · rw [(h2 i hi).2.1, hc]
    · rw [if_neg e] at hx
      obtain ⟨a, b, j, hj, rfl⟩ := h3 x t hx
      exact ⟨a, b, j, by omega, hR j hj⟩
  · rcases (show k < n ∨ k = n by omega) with z | z
    · rw [hD k z, hD j (by omega)]
      exact h4 j k hjk z
    · subst z
      rw [hDn]
      have hii := (h4 i i (Nat.le_refl _) hi).2
      refine ⟨?_, by omega⟩
      rcases (show j < k ∨ j = k by omega) with y | y
      · rw [hD j y]
        exact h5 hi j y
      · subst y
        rw [hDn]
        exact Nat.le_refl _
  · rw [hD i hi]
    rcases (show k < n ∨ k = n by omega) with z | z
    · rw [hD k z]
      exact h5 hi k z
    · subst z
      rw [hDn]
      exact Nat.le_refl _
  · rw [hR j (by omega)] at hx
    rw [hD j (by omega)]
    obtain ⟨t, ht, hle⟩ := h6 j hj x hx
    exact ⟨t, hT _ _ ht, hle⟩
  · rw [hR i hi] at hx
    rw [hD i hi]
    rcases (show s' < s ∨ s' = s by omega) with z | z
    · obtain ⟨t, ht, hle⟩ := h7 hi s' z x hx hcx
      exact ⟨t, hT _ _ ht, hle⟩
    · subst z
      rw [hq] at hx
      cases hx
      exact ⟨D i + 1, if_pos rfl, Nat.le_refl _⟩
  · rcases (show j < n ∨ j = n by omega) with z | z <;> rcases (show k < n ∨ k = n by omega) with y | y
    · rw [hR j z, hR k y] at e
      exact h8 j k z y e
    · subst y
      rw [hR j z, hRn] at e
      exact absurd e (hne j z)
    · subst z
      rw [hR k y, hRn] at e
      exact absurd e.symm (hne k y)
    · omega
theorem BI_next {g : Nat → Nat} {f i n : Nat} {R D : Nat → Nat} {T : Nat → Option Nat} (h : BI g f i 4 n R D T) (hi : i < n) : BI g f (i + 1) 0 n R D T := by
  obtain ⟨h1, h2, h3, h4, h5, h6, h7, h8⟩ := h
  refine ⟨⟨h1.1, by omega, h1.2.2⟩, h2, h3, h4, fun hi2 k hk => ?_, fun j hj q hq => ?_, fun _ s' hs => absurd hs (Nat.not_lt_zero _), h8⟩
  · have a := h5 hi k hk
    have b := (h4 i (i + 1) (by omega) hi2).1
    omega
  · rcases (show j < i ∨ j = i by omega) with z | z
    · exact h6 j z q hq
    · subst z
      obtain ⟨a, b, s, hs, e⟩ := hq
      exact h7 hi s hs q e (by rw [b, (h2 j hi).2.1])
theorem BI_lt {g : Nat → Nat} {f i s n : Nat} {R D : Nat → Nat} {T : Nat → Option Nat} (h : BI g f i s n R D T) : ∀ q t, T q = some t → t < 48 := by
  obtain ⟨h1, h2, h3, h4, h5, h6, h7, h8⟩ := h
  intro q t ht
  obtain ⟨-, -, j, hj, rfl⟩ := h3 q t ht
  have := (h2 j hj).2.2
  rw [ht] at this
  cases this
  have := (h4 j j (Nat.le_refl _) hj).2
  omega
/-- what the wave tells at its end -/
def WE (g : Nat → Nat) (f n : Nat) (R : Nat → Nat) (T : Nat → Option Nat) : Prop :=
  1 ≤ n ∧ n ≤ 48 ∧ (∀ j, j < n → R j < 48 ∧ conn g f (R j)) ∧ (∀ j k, j < n → k < n → R j = R k → j = k) ∧ (∀ q, conn g f q → ∃ j, j < n ∧ R j = q) ∧ (∀ q t, T q = some t ↔ isd g t f q)
theorem BI_end {g : Nat → Nat} {f n s : Nat} {R D : Nat → Nat} {T : Nat → Option Nat} (h : BI g f n s n R D T) : WE g f n R T := by
  obtain ⟨h1, h2, h3, h4, h5, h6, h7, h8⟩ := h
  have key : ∀ m q, rch g m f q → ∃ t, T q = some t ∧ t ≤ m := by
    intro m
    induction m with
    | zero =>
      intro q h
      have e : f = q := h
      subst e
      exact ⟨0, h1.2.2.1, Nat.le_refl _⟩
    | succ m ih =>
      intro q h
      rcases h with h | ⟨r, ha, hb⟩
      · obtain ⟨t, ht, hle⟩ := ih q h
        exact ⟨t, ht, by omega⟩
      · obtain ⟨t, ht, hle⟩ := ih r ha
        obtain ⟨-, -, j, hj, rfl⟩ := h3 r t ht
        obtain ⟨t2, ht2, hle2⟩ := h6 j hj q hb
        have := (h2 j hj).2.2
        rw [ht] at this
        cases this
        exact ⟨t2, ht2, by omega⟩
  have hn : 1 ≤ n := by
    obtain ⟨-, -, j, hj, -⟩ := h3 f 0 h1.2.2.1
    omega
  refine ⟨hn, h1.1, fun j hj => ⟨(h2 j hj).1, _, (h3 _ _ (h2 j hj).2.2).2.1⟩, h8, fun q ⟨m, hm⟩ => ?_, fun q t => ⟨fun ht => ⟨(h3 q t ht).2.1, fun m hm hr => ?_⟩, fun ⟨ha, hb⟩ => ?_⟩⟩
  · obtain ⟨t, ht, -⟩ := key m q hm
    exact (h3 q t ht).2.2
  · obtain ⟨t2, ht2, hle⟩ := key m q hr
    rw [ht] at ht2
    cases ht2
    omega
  · obtain ⟨t2, ht2, hle⟩ := key t q ha
    rcases (show t2 < t ∨ t2 = t by omega) with z | z
    · exact absurd (h3 q t2 ht2).2.1 (hb t2 z)
    · rw [← z]
      exact ht2
end P12
