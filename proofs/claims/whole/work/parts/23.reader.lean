/-! Reader (5; told 6, its values 7): parsing, as a function -/
section P23
variable {l : Launch} {α : Nat → Nat} {D : va_G} {cA : Nat → ClassId}
/-- a state of the parse: the place behind which the present token is sought, the cloth told so far, its rows -/
abbrev RT : Type := Nat × (Nat → Nat) × Nat
noncomputable def isWt (n : Nat) (t : Nat → Nat) (i w : Nat) : Bool := dec (isW t (tkS n t i) (tkE n t i) (tkK n t i) w)
noncomputable def isDt (n : Nat) (t : Nat → Nat) (i a b lo hi : Nat) : Bool := dec (isD t (tkS n t i) (tkE n t i) (tkK n t i) a b lo hi)
def dg (n : Nat) (t : Nat → Nat) (i : Nat) : Nat := t (tkS n t i + 0) - 48
def pSemi (n : Nat) (t : Nat → Nat) (s : RT) : Bool × RT := if tkK n t s.1 = 4 then (true, tkE n t s.1, s.2) else (false, s)
noncomputable def pVal (n : Nat) (t : Nat → Nat) (ix lo hi : Nat) (s : RT) : Bool × RT := if isDt n t s.1 1 1 lo hi = true then (true, tkE n t s.1, updN s.2.1 ix (dg n t s.1), s.2.2) else (false, s)
noncomputable def pOf (n : Nat) (t : Nat → Nat) (first hi : Nat) (s : RT) : Bool × RT := if isDt n t (tkE n t s.1) 1 1 1 3 = true then pVal n t (first + dg n t (tkE n t s.1)) 0 hi (tkE n t (tkE n t s.1), s.2) else (false, tkE n t s.1, s.2)
/-- x cells of row r painted from the token -/
def pnt (n : Nat) (t : Nat → Nat) (i r : Nat) (g : Nat → Nat) : Nat → Nat → Nat
  | 0 => g
  | x + 1 => updN (pnt n t i r g x) (12 + (8 * r + x)) (t (tkS n t i + x) - 48)
noncomputable def pcD (n : Nat) (t : Nat → Nat) (s : RT) : Bool := isDt n t s.1 (if s.2.2 = 0 then 1 else s.2.1 0) (if s.2.2 = 0 then 8 else s.2.1 0) 0 3
noncomputable def pCells (n : Nat) (t : Nat → Nat) (s : RT) : Bool × RT :=
  if pcD n t s = true then (true, tkE n t s.1, updN (updN (pnt n t s.1 s.2.2 s.2.1 (tkE n t s.1 - tkS n t s.1)) 0 (tkE n t s.1 - tkS n t s.1)) 1 (s.2.2 + 1), s.2.2 + 1) else (false, s)
def bnd (p : Bool × RT) (f : RT → Bool × RT) : Bool × RT := if p.1 = true then f p.2 else p
noncomputable def pItem (n : Nat) (t : Nat → Nat) (s : RT) : Bool × RT :=
  if isWt n t s.1 0 = true ∧ s.2.2 < 6 then bnd (pCells n t (tkE n t s.1, s.2)) (pSemi n t)
  else if isWt n t s.1 1 = true then bnd (pOf n t 4 1 s) (pSemi n t)
  else if isWt n t s.1 2 = true then bnd (pOf n t 8 9 s) (pSemi n t)
  else if isWt n t s.1 3 = true then bnd (pVal n t 2 1 5 (tkE n t s.1, s.2)) (pSemi n t)
  else if isWt n t s.1 4 = true then bnd (pVal n t 3 0 2 (tkE n t s.1, s.2)) (pSemi n t)
  else (false, s)
/-- what is always so of a cloth being told, with r rows -/
def PG (r : Nat) (g : Nat → Nat) : Prop := r ≤ 6 ∧ (r = 0 → g 0 = 1 ∧ g 1 = 1) ∧ (1 ≤ g 0 ∧ g 0 ≤ 8) ∧ (r ≠ 0 → g 1 = r) ∧ (1 ≤ g 2 ∧ g 2 ≤ 5) ∧ g 3 ≤ 2 ∧ (∀ c, c < 4 → g (4 + c) ≤ 1 ∧ g (8 + c) ≤ 9) ∧ ∀ p, p < 48 → g (12 + p) ≤ 3 ∧ (g (12 + p) ≠ 0 → p % 8 < g 0 ∧ p / 8 < r)
theorem PG_0 : PG 0 gS := by
  refine ⟨by omega, fun _ => ⟨rfl, rfl⟩, ⟨by decide, by decide⟩, fun h => absurd rfl h, ⟨by decide, by decide⟩, by decide, fun c hc => ?_, fun p hp => ?_⟩
  · simp [gS, show 4 + c ≠ 0 by omega, show 4 + c ≠ 1 by omega, show 4 + c ≠ 2 by omega, show 8 + c ≠ 0 by omega, show 8 + c ≠ 1 by omega, show 8 + c ≠ 2 by omega]
  · simp [gS, show 12 + p ≠ 0 by omega, show 12 + p ≠ 1 by omega, show 12 + p ≠ 2 by omega]
theorem PG_gok {r : Nat} {g : Nat → Nat} (h : PG r g) (hr : r ≠ 0) : gok g := by
  obtain ⟨h1, h2, h3, h4, h5, h6, h7, h8⟩ := h
  have e := h4 hr
  exact ⟨h3, by omega, h5, h6, h7, fun p hp => ⟨(h8 p hp).1, fun z => by rw [e]; exact (h8 p hp).2 z⟩⟩
theorem PG_9 {r : Nat} {g : Nat → Nat} (h : PG r g) : g9 g := by
  by_cases hr : r = 0
  · subst hr
    obtain ⟨h1, h2, h3, h4, h5, h6, h7, h8⟩ := h
    have e := (h2 rfl).2
    exact gok_9 ⟨h3, by omega, h5, h6, h7, fun p hp => ⟨(h8 p hp).1, fun z => absurd ((h8 p hp).2 z).2 (Nat.not_lt_zero _)⟩⟩
  · exact gok_9 (PG_gok h hr)
theorem isDt_1 {n : Nat} {t : Nat → Nat} {i a b lo hi : Nat} (h : isDt n t i a b lo hi = true) : tkK n t i = 3 ∧ (a ≤ tkE n t i - tkS n t i ∧ tkE n t i - tkS n t i ≤ b) ∧ ∀ j, j < tkE n t i - tkS n t i → lo ≤ t (tkS n t i + j) - 48 ∧ t (tkS n t i + j) - 48 ≤ hi := dec_iff.mp h
theorem isDt_d {n : Nat} {t : Nat → Nat} {i lo hi : Nat} (h : isDt n t i 1 1 lo hi = true) : lo ≤ dg n t i ∧ dg n t i ≤ hi := (isDt_1 h).2.2 0 (by have := (isDt_1 h).2.1; omega)
theorem tkE_in {n : Nat} {t : Nat → Nat} {i : Nat} (hi : i ≤ n) : tkE n t i ≤ n ∧ i ≤ tkS n t i ∧ tkS n t i ≤ tkE n t i ∧ (tkK n t i ≠ 0 → i < tkE n t i) := by
  have h := tok_TF (t := t) hi
  have h2 := (run_in (P := fun x => knd n t x == 1) _ i rfl hi).1
  have h2 : i ≤ tkS n t i := h2
  exact ⟨h.2.1, h2, h.1, fun z => by have := h.2.2.2.2 z; omega⟩
theorem PG_upd {r : Nat} {g : Nat → Nat} {ix v : Nat} (h : PG r g) (hx : (ix = 2 ∧ 1 ≤ v ∧ v ≤ 5) ∨ (ix = 3 ∧ v ≤ 2) ∨ (4 ≤ ix ∧ ix < 8 ∧ v ≤ 1) ∨ (8 ≤ ix ∧ ix < 12 ∧ v ≤ 9)) : PG r (updN g ix v) := by
  obtain ⟨h1, h2, h3, h4, h5, h6, h7, h8⟩ := h
  have e : ∀ j, j ≠ ix → updN g ix v j = g j := fun j hj => updN_n hj
  have ek : updN g ix v ix = v := updN_k
  refine ⟨h1, fun z => by rw [e 0 (by omega), e 1 (by omega)]; exact h2 z, by rw [e 0 (by omega)]; exact h3, fun z => by rw [e 1 (by omega)]; exact h4 z, ?_, ?_, fun c hc => ⟨?_, ?_⟩, fun p hp => by rw [e (12 + p) (by omega), e 0 (by omega)]; exact h8 p hp⟩
  · by_cases z : 2 = ix
    · rw [z, ek]; omega
    · rw [e 2 z]; exact h5
  · by_cases z : 3 = ix
    · rw [z, ek]; omega
    · rw [e 3 z]; exact h6
  · by_cases z : 4 + c = ix
    · rw [z, ek]; omega
    · rw [e _ z]; exact (h7 c hc).1
  · by_cases z : 8 + c = ix
    · rw [z, ek]; omega
    · rw [e _ z]; exact (h7 c hc).2
theorem pnt_out {n : Nat} {t : Nat → Nat} {i r j : Nat} {g : Nat → Nat} : ∀ {x : Nat}, (j < 12 + 8 * r ∨ 12 + 8 * r + x ≤ j) → pnt n t i r g x j = g j := by
  intro x
  induction x with
  | zero => intro _; rfl
  | succ x ih =>
    intro h
    rw [pnt, updN_n (by omega)]
    exact ih (by omega)
theorem pnt_in {n : Nat} {t : Nat → Nat} {i r y : Nat} {g : Nat → Nat} : ∀ {x : Nat}, y < x → pnt n t i r g x (12 + (8 * r + y)) = t (tkS n t i + y) - 48 := by
  intro x
  induction x with
  | zero => intro h; exact absurd h (Nat.not_lt_zero _)
  | succ x ih =>
    intro h
    rw [pnt]
    by_cases e : y = x
    · subst e; rw [updN_k]
    · rw [updN_n (by omega)]
      exact ih (by omega)
/-- the state is in order -/
def PV (n : Nat) (s : RT) : Prop := s.1 ≤ n ∧ PG s.2.2 s.2.1
theorem pSemi_V {n : Nat} {t : Nat → Nat} {s : RT} (h : PV n s) : PV n (pSemi n t s).2 ∧ s.1 ≤ (pSemi n t s).2.1 := by
  unfold pSemi
  have := tkE_in (t := t) h.1
  split
  · exact ⟨⟨this.1, h.2⟩, by show s.1 ≤ tkE n t s.1; omega⟩
  · exact ⟨h, Nat.le_refl _⟩
theorem pVal_V {n : Nat} {t : Nat → Nat} {ix lo hi : Nat} {s : RT} (h : PV n s) (hx : ∀ v, lo ≤ v → v ≤ hi → (ix = 2 ∧ 1 ≤ v ∧ v ≤ 5) ∨ (ix = 3 ∧ v ≤ 2) ∨ (4 ≤ ix ∧ ix < 8 ∧ v ≤ 1) ∨ (8 ≤ ix ∧ ix < 12 ∧ v ≤ 9)) : PV n (pVal n t ix lo hi s).2 ∧ s.1 ≤ (pVal n t ix lo hi s).2.1 := by
  unfold pVal
  have := tkE_in (t := t) h.1
  split
  · rename_i z
    exact ⟨⟨this.1, PG_upd h.2 (hx _ (isDt_d z).1 (isDt_d z).2)⟩, by show s.1 ≤ tkE n t s.1; omega⟩
  · exact ⟨h, Nat.le_refl _⟩
theorem pOf_V {n : Nat} {t : Nat → Nat} {first hi : Nat} {s : RT} (h : PV n s) (hf : (first = 4 ∧ hi = 1) ∨ (first = 8 ∧ hi = 9)) : PV n (pOf n t first hi s).2 ∧ s.1 ≤ (pOf n t first hi s).2.1 := by
  unfold pOf
  have h1 := tkE_in (t := t) h.1
  have h2 := tkE_in (t := t) h1.1
  split
  · rename_i z
    have hd := isDt_d z
    have := pVal_V (t := t) (ix := first + dg n t (tkE n t s.1)) (lo := 0) (hi := hi) (s := (tkE n t (tkE n t s.1), s.2)) ⟨h2.1, h.2⟩ (fun v _ hv => by omega)
    refine ⟨this.1, ?_⟩
    have := this.2
    dsimp only at this
    omega
  · exact ⟨⟨h1.1, h.2⟩, by show s.1 ≤ tkE n t s.1; omega⟩
theorem pCells_V {n : Nat} {t : Nat → Nat} {s : RT} (h : PV n s) (h6 : s.2.2 < 6) : PV n (pCells n t s).2 ∧ s.1 ≤ (pCells n t s).2.1 := by
  unfold pCells
  have h1 := tkE_in (t := t) h.1
  split
  · rename_i z
    refine ⟨⟨h1.1, ?_⟩, by show s.1 ≤ tkE n t s.1; omega⟩
    obtain ⟨i, g, r⟩ := s
    obtain ⟨k1, k2, k3, k4, k5, k6, k7, k8⟩ := h.2
    dsimp only at z k1 k2 k3 k4 k5 k6 k7 k8 h6 ⊢
    obtain ⟨z1, z2, z3⟩ := isDt_1 (show isDt n t i (if r = 0 then 1 else g 0) (if r = 0 then 8 else g 0) 0 3 = true from z)
    generalize hw : tkE n t i - tkS n t i = w at z2 z3
    have hw8 : 1 ≤ w ∧ w ≤ 8 ∧ (r ≠ 0 → w = g 0) := by
      by_cases e : r = 0
      · rw [if_pos e, if_pos e] at z2
        exact ⟨by omega, by omega, fun q => absurd e q⟩
      · rw [if_neg e, if_neg e] at z2
        exact ⟨by omega, by omega, fun _ => by omega⟩
    have e0 : ∀ j, j ≠ 0 → j ≠ 1 → updN (updN (pnt n t i r g w) 0 w) 1 (r + 1) j = pnt n t i r g w j := fun j a b => by rw [updN_n b, updN_n a]
    have ew : updN (updN (pnt n t i r g w) 0 w) 1 (r + 1) 0 = w := by rw [updN_n (by decide), updN_k]
    have lo : ∀ j, j < 12 → pnt n t i r g w j = g j := fun j hj => pnt_out (by omega)
    refine ⟨by omega, fun q => absurd q (by omega), by rw [ew]; omega, fun _ => updN_k, by rw [e0 2 (by decide) (by decide), lo 2 (by decide)]; exact k5, by rw [e0 3 (by decide) (by decide), lo 3 (by decide)]; exact k6, fun c hc => by rw [e0 _ (by omega) (by omega), e0 _ (by omega) (by omega), lo _ (by omega), lo _ (by omega)]; exact k7 c hc, fun p hp => ?_⟩
    rw [e0 _ (by omega) (by omega), ew]
    by_cases y : 8 * r ≤ p ∧ p < 8 * r + w
    · have ep : 12 + p = 12 + (8 * r + (p - 8 * r)) := by omega
      rw [ep, pnt_in (by omega)]
      exact ⟨(z3 _ (by omega)).2, fun _ => by omega⟩
    · rw [pnt_out (by omega)]
      refine ⟨(k8 p hp).1, fun q => ?_⟩
      have a := (k8 p hp).2 q
      by_cases e : r = 0
      · omega
      · have := hw8.2.2 e
        omega
  · exact ⟨h, Nat.le_refl _⟩
theorem bnd_V {n : Nat} {t : Nat → Nat} {i : Nat} {p : Bool × RT} (h : PV n p.2 ∧ i ≤ p.2.1) : PV n (bnd p (pSemi n t)).2 ∧ i ≤ (bnd p (pSemi n t)).2.1 := by
  unfold bnd
  split
  · have := pSemi_V (t := t) h.1
    exact ⟨this.1, by omega⟩
  · exact h
theorem isWt_2 {n : Nat} {t : Nat → Nat} {i w : Nat} (h : isWt n t i w = true) : tkK n t i = 2 := (dec_iff.mp h).1
theorem pItem_V {n : Nat} {t : Nat → Nat} {s : RT} (h : PV n s) : PV n (pItem n t s).2 ∧ ((pItem n t s).1 = true → s.1 < (pItem n t s).2.1) := by
  have h1 := tkE_in (t := t) h.1
  have hn : PV n (tkE n t s.1, s.2) := ⟨h1.1, h.2⟩
  unfold pItem
  split
  · rename_i z
    have k := h1.2.2.2 (by rw [isWt_2 z.1]; decide)
    have := bnd_V (t := t) (pCells_V (t := t) hn z.2)
    exact ⟨this.1, fun _ => by have := this.2; dsimp only at this; omega⟩
  · split
    · rename_i z
      have k := h1.2.2.2 (by rw [isWt_2 z]; decide)
      refine ⟨(bnd_V (t := t) (pOf_V (t := t) h (Or.inl ⟨rfl, rfl⟩))).1, fun _ => ?_⟩
      have h2 := tkE_in (t := t) h1.1
      have a : tkE n t s.1 ≤ (pOf n t 4 1 s).2.1 := by
        unfold pOf
        split
        · rename_i y
          have hd := isDt_d y
          have := (pVal_V (t := t) (ix := 4 + dg n t (tkE n t s.1)) (lo := 0) (hi := 1) (s := (tkE n t (tkE n t s.1), s.2)) ⟨h2.1, h.2⟩ (fun v _ hv => by omega)).2
          dsimp only at this
          omega
        · exact Nat.le_refl _
      have := (bnd_V (t := t) ⟨(pOf_V (t := t) h (Or.inl ⟨rfl, rfl⟩)).1, a⟩).2
      omega
    · split
      · rename_i z
        have k := h1.2.2.2 (by rw [isWt_2 z]; decide)
        refine ⟨(bnd_V (t := t) (pOf_V (t := t) h (Or.inr ⟨rfl, rfl⟩))).1, fun _ => ?_⟩
        have h2 := tkE_in (t := t) h1.1
        have a : tkE n t s.1 ≤ (pOf n t 8 9 s).2.1 := by
          unfold pOf
          split
          · rename_i y
            have hd := isDt_d y
            have := (pVal_V (t := t) (ix := 8 + dg n t (tkE n t s.1)) (lo := 0) (hi := 9) (s := (tkE n t (tkE n t s.1), s.2)) ⟨h2.1, h.2⟩ (fun v _ hv => by omega)).2
            dsimp only at this
            omega
          · exact Nat.le_refl _
        have := (bnd_V (t := t) ⟨(pOf_V (t := t) h (Or.inr ⟨rfl, rfl⟩)).1, a⟩).2
        omega
      · split
        · rename_i z
          have k := h1.2.2.2 (by rw [isWt_2 z]; decide)
          have := bnd_V (t := t) (pVal_V (t := t) (ix := 2) (lo := 1) (hi := 5) hn (fun v _ _ => by omega))
          exact ⟨this.1, fun _ => by have := this.2; dsimp only at this; omega⟩
        · split
          · rename_i z
            have k := h1.2.2.2 (by rw [isWt_2 z]; decide)
            have := bnd_V (t := t) (pVal_V (t := t) (ix := 3) (lo := 0) (hi := 2) hn (fun v _ _ => by omega))
            exact ⟨this.1, fun _ => by have := this.2; dsimp only at this; omega⟩
          · exact ⟨h, fun z => by cases z⟩
/-- the whole text: items so far, and the state; k items at most -/
noncomputable def pRd (n : Nat) (t : Nat → Nat) : Nat → Nat → RT → Bool × Nat × RT
  | 0, m, s => (true, m, s)
  | k + 1, m, s => if tkK n t s.1 = 0 then (true, m, s) else if (pItem n t s).1 = true then pRd n t k (m + 1) (pItem n t s).2 else (false, m, (pItem n t s).2)
/-- what the Reader's cells hold -/
def RDx (n : Nat) (t : Nat → Nat) (s : RT) (M : Mem) : Prop := TKM (tkS n t s.1) (tkE n t s.1) (tkK n t s.1) M ∧ hC s.2.1 (M 7) ∧ M 5 1 = nI s.2.2
def FRR (M M1 : Mem) : Prop := (∀ q, q ≠ 3 → q ≠ 5 → q ≠ 7 → M1 q = M q) ∧ M1 3 1 = M 3 1
theorem FRR_t {M M1 M2 : Mem} (h : FRR M M1) (h2 : FRR M1 M2) : FRR M M2 := ⟨fun q a b c => (h2.1 q a b c).trans (h.1 q a b c), h2.2.trans h.2⟩
theorem FRR_r {M : Mem} : FRR M M := ⟨fun _ _ _ _ => rfl, rfl⟩
theorem TX_R {n : Nat} {t : Nat → Nat} {M M1 : Mem} (h : TX n t M) (hF : FRR M M1) : TX n t M1 := TX_3 h (hF.1 4 (by decide) (by decide) (by decide)) hF.2
theorem c_nextR {d n : Nat} {t : Nat → Nat} {s : RT} {M : Mem} (hT : TX n t M) (hR : RDx n t s M) (hi : s.1 ≤ n) : Call l α D cA uX7_toNextToken (d + 1) [.inr 3] M (fun _ M1 => FRR M M1 ∧ RDx n t (tkE n t s.1, s.2) M1) :=
  (c_nextTok hT hR.1.2.1 (tkE_in hi).1).mono (fun _ M1 h => by
    subst h
    refine ⟨⟨fun q a b c => by simp [ms, a], by simp [ms, upd]⟩, ⟨by simp [ms, upd], by simp [ms, upd], by simp [ms, upd]⟩, by simp [ms]; exact hR.2.1, by simp [ms]; exact hR.2.2⟩)
theorem kle {n : Nat} {t : Nat → Nat} {i : Nat} : tkK n t i ≤ 5 := knd_le
theorem c_semi {d n : Nat} {t : Nat → Nat} {s : RT} {M : Mem} (hT : TX n t M) (hR : RDx n t s M) (hV : PV n s) : Call l α D cA uX4_passSemicolon (d + 2) [.inr 5, .inr 3] M (fun r M1 => r = .inl (bI (pSemi n t s).1) ∧ FRR M M1 ∧ RDx n t (pSemi n t s).2 M1) := by
  refine Call.of kX4_passSemicolon.1 (Nat.le_of_ble_eq_true rfl) ?_
  refine G_aload_n dX4_passSemicolon_0 rfl rfl ?_
  refine G_callVi (ν := uX7_isSemicolon) (As := []) dX4_passSemicolon_1 nX4_98 kX7_isSemicolon rfl rfl rfl rfl rfl (Nat.le_of_ble_eq_true rfl) (c_isSemi hR.1.2.2 kle) ?_
  rintro _ M8 ⟨rfl, e9⟩
  subst M8
  refine Gb_if_ne (tgt := 9) dX4_passSemicolon_4 (by decide) (fun h4 => ?_) (fun h4 => ?_)
  · refine G_aload_n dX4_passSemicolon_9 rfl rfl ?_
    refine G_callVv (ν := uX7_toNextToken) (As := []) dX4_passSemicolon_10 nX4_48 kX7_toNextToken rfl rfl rfl rfl rfl (Nat.le_of_ble_eq_true rfl) (c_nextR hT hR hV.1) ?_
    rintro _ M7 ⟨hF7, hR7⟩
    refine G_iconst (v := (nI 1)) dX4_passSemicolon_13 (by decide) ?_
    refine G_iret dX4_passSemicolon_14 rfl (by decide) ?_
    rw [show pSemi n t s = (true, tkE n t s.1, s.2) from if_pos (of_decide_eq_true h4)]
    exact ⟨rfl, hF7, hR7⟩
  · refine G_iconst (v := (nI 0)) dX4_passSemicolon_7 (by decide) ?_
    refine G_iret dX4_passSemicolon_8 rfl (by decide) ?_
    rw [show pSemi n t s = (false, s) from if_neg (of_decide_eq_false h4)]
    exact ⟨rfl, FRR_r, hR⟩
theorem c_passVal {ix lo hi : Nat} {d n : Nat} {t : Nat → Nat} {s : RT} {M : Mem} (hT : TX n t M) (hR : RDx n t s M) (hV : PV n s) (hix : ix < 60) (hlo : lo ≤ 9) (hhi : hi ≤ 9) : Call l α D cA uX4_passValue (d + 3) [.inr 5, .inr 3, .inl (nI ix), .inl (nI lo), .inl (nI hi)] M (fun r M1 => r = .inl (bI (pVal n t ix lo hi s).1) ∧ FRR M M1 ∧ RDx n t (pVal n t ix lo hi s).2 M1) := by
  refine Call.of kX4_passValue.1 (Nat.le_of_ble_eq_true rfl) ?_
  refine G_aload_n dX4_passValue_0 rfl rfl ?_
  refine G_iconst (v := (nI 1)) dX4_passValue_1 (by decide) ?_
  refine G_iconst (v := (nI 1)) dX4_passValue_2 (by decide) ?_
  refine G_iload_n dX4_passValue_3 rfl rfl ?_
  refine G_iload dX4_passValue_4 rfl ?_
  refine G_callVi (ν := uX7_isDigits) (As := [.inl (nI 1), .inl (nI 1), .inl (nI lo), .inl (nI hi)]) dX4_passValue_6 nX4_76 kX7_isDigits rfl rfl rfl rfl rfl (Nat.le_of_ble_eq_true rfl) (c_isDig (n := n) (t := t) (s := tkS n t s.1) (e := tkE n t s.1) (k := tkK n t s.1) hT hR.1 (tok_TF hV.1) (by omega) (by omega) (by omega) (by omega)) ?_
  rintro _ M8 ⟨rfl, e9⟩
  subst M8
  rw [show dec (isD t (tkS n t s.1) (tkE n t s.1) (tkK n t s.1) 1 1 lo hi) = isDt n t s.1 1 1 lo hi from rfl]
  refine Gb_if_ne (tgt := 14) dX4_passValue_9 (by decide) (fun h9 => ?_) (fun h9 => ?_)
  · refine G_aload_n dX4_passValue_14 rfl rfl ?_
    refine G_getR (j := 6) dX4_passValue_15 fX4_12 rfl rfl ?_
    refine G_iload_n dX4_passValue_18 rfl rfl ?_
    refine G_aload_n dX4_passValue_19 rfl rfl ?_
    refine G_iconst (v := (nI 0)) dX4_passValue_20 (by decide) ?_
    refine G_callVi (ν := uX7_digit) (As := [.inl (nI 0)]) dX4_passValue_21 nX4_87 kX7_digit rfl rfl rfl rfl rfl (Nat.le_of_ble_eq_true rfl) (c_digit (i := 0) hT hR.1 (tok_TF hV.1) (isDt_1 h9).1 (by have := (isDt_1 h9).2.1; omega)) ?_
    rintro _ M8 ⟨rfl, e9⟩
    subst M8
    rw [show t (tkS n t s.1 + 0) - 48 = dg n t s.1 from rfl]
    refine G_callVv (ν := uX0_set) (As := [.inl (nI ix), .inl (nI (dg n t s.1))]) dX4_passValue_24 nX4_95 kX0_set rfl rfl rfl rfl rfl (Nat.le_of_ble_eq_true rfl) (c_set (o := 6) (v := 7) rfl rfl hix) ?_
    rintro _ M6 e6
    have hF6 : FRR M M6 := by subst e6; exact ⟨fun q a b c => mo_q c, by rw [mo_q (by decide)]⟩
    have hR6 : RDx n t (s.1, updN s.2.1 ix (dg n t s.1), s.2.2) M6 := by
      subst e6
      refine ⟨⟨by rw [mo_q (by decide)]; exact hR.1.1, by rw [mo_q (by decide)]; exact hR.1.2.1, by rw [mo_q (by decide)]; exact hR.1.2.2⟩, fun j hj => ?_, by rw [mo_q (by decide)]; exact hR.2.2⟩
      rw [mo_o]
      show upd (M 7) ix (nI (dg n t s.1)) j = nI (updN s.2.1 ix (dg n t s.1) j)
      unfold upd updN
      by_cases e : j = ix
      · rw [if_pos e, if_pos e]
      · rw [if_neg e, if_neg e]; exact hR.2.1 j hj
    refine G_aload_n dX4_passValue_27 rfl rfl ?_
    refine G_callVv (ν := uX7_toNextToken) (As := []) dX4_passValue_28 nX4_48 kX7_toNextToken rfl rfl rfl rfl rfl (Nat.le_of_ble_eq_true rfl) (c_nextR (s := (s.1, updN s.2.1 ix (dg n t s.1), s.2.2)) (TX_R hT hF6) hR6 hV.1) ?_
    rintro _ M7 ⟨hF7, hR7⟩
    refine G_iconst (v := (nI 1)) dX4_passValue_31 (by decide) ?_
    refine G_iret dX4_passValue_32 rfl (by decide) ?_
    rw [show pVal n t ix lo hi s = (true, tkE n t s.1, updN s.2.1 ix (dg n t s.1), s.2.2) from if_pos h9]
    exact ⟨rfl, FRR_t hF6 hF7, hR7⟩
  · refine G_iconst (v := (nI 0)) dX4_passValue_12 (by decide) ?_
    refine G_iret dX4_passValue_13 rfl (by decide) ?_
    rw [show pVal n t ix lo hi s = (false, s) from if_neg (by rw [h9]; decide)]
    exact ⟨rfl, FRR_r, hR⟩
theorem c_passOf {first hi : Nat} {d n : Nat} {t : Nat → Nat} {s : RT} {M : Mem} (hT : TX n t M) (hR : RDx n t s M) (hV : PV n s) (hf : first ≤ 8) (hhi : hi ≤ 9) : Call l α D cA uX4_passOfColour (d + 4) [.inr 5, .inr 3, .inl (nI first), .inl (nI hi)] M (fun r M1 => r = .inl (bI (pOf n t first hi s).1) ∧ FRR M M1 ∧ RDx n t (pOf n t first hi s).2 M1) := by
  refine Call.of kX4_passOfColour.1 (Nat.le_of_ble_eq_true rfl) ?_
  have t1 := tkE_in (t := t) hV.1
  have t2 := tkE_in (t := t) t1.1
  refine G_aload_n dX4_passOfColour_0 rfl rfl ?_
  refine G_callVv (ν := uX7_toNextToken) (As := []) dX4_passOfColour_1 nX4_48 kX7_toNextToken rfl rfl rfl rfl rfl (Nat.le_of_ble_eq_true rfl) (c_nextR hT hR hV.1) ?_
  rintro _ M7 ⟨hF7, hR7⟩
  refine G_aload_n dX4_passOfColour_4 rfl rfl ?_
  refine G_iconst (v := (nI 1)) dX4_passOfColour_5 (by decide) ?_
  refine G_iconst (v := (nI 1)) dX4_passOfColour_6 (by decide) ?_
  refine G_iconst (v := (nI 1)) dX4_passOfColour_7 (by decide) ?_
  refine G_iconst (v := (nI 3)) dX4_passOfColour_8 (by decide) ?_
  refine G_callVi (ν := uX7_isDigits) (As := [.inl (nI 1), .inl (nI 1), .inl (nI 1), .inl (nI 3)]) dX4_passOfColour_9 nX4_76 kX7_isDigits rfl rfl rfl rfl rfl (Nat.le_of_ble_eq_true rfl) (c_isDig (n := n) (t := t) (s := tkS n t (tkE n t s.1)) (e := tkE n t (tkE n t s.1)) (k := tkK n t (tkE n t s.1)) (TX_R hT hF7) hR7.1 (tok_TF t1.1) (by omega) (by omega) (by omega) (by omega)) ?_
  rintro _ M8 ⟨rfl, e9⟩
  subst M8
  rw [show dec (isD t (tkS n t (tkE n t s.1)) (tkE n t (tkE n t s.1)) (tkK n t (tkE n t s.1)) 1 1 1 3) = isDt n t (tkE n t s.1) 1 1 1 3 from rfl]
  refine Gb_if_ne (tgt := 17) dX4_passOfColour_12 (by decide) (fun h12 => ?_) (fun h12 => ?_)
  · refine G_aload_n dX4_passOfColour_17 rfl rfl ?_
    refine G_iconst (v := (nI 0)) dX4_passOfColour_18 (by decide) ?_
    refine G_callVi (ν := uX7_digit) (As := [.inl (nI 0)]) dX4_passOfColour_19 nX4_87 kX7_digit rfl rfl rfl rfl rfl (Nat.le_of_ble_eq_true rfl) (c_digit (s := tkS n t (tkE n t s.1)) (e := tkE n t (tkE n t s.1)) (k := tkK n t (tkE n t s.1)) (i := 0) (TX_R hT hF7) hR7.1 (tok_TF t1.1) (isDt_1 h12).1 (by have := (isDt_1 h12).2.1; omega)) ?_
    rintro _ M8 ⟨rfl, e9⟩
    subst M8
    rw [show t (tkS n t (tkE n t s.1) + 0) - 48 = dg n t (tkE n t s.1) from rfl]
    have hd := isDt_d h12
    refine G_istore (L2 := [some (.inr 5), some (.inr 3), some (.inl (nI first)), some (.inl (nI hi)), some (.inl (nI (dg n t (tkE n t s.1))))]) dX4_passOfColour_22 (Nat.le_of_ble_eq_true rfl) rfl ?_
    refine G_aload_n dX4_passOfColour_24 rfl rfl ?_
    refine G_callVv (ν := uX7_toNextToken) (As := []) dX4_passOfColour_25 nX4_48 kX7_toNextToken rfl rfl rfl rfl rfl (Nat.le_of_ble_eq_true rfl) (c_nextR (TX_R hT hF7) hR7 t1.1) ?_
    rintro _ M6 ⟨hF6, hR6⟩
    refine G_aload_n dX4_passOfColour_28 rfl rfl ?_
    refine G_aload_n dX4_passOfColour_29 rfl rfl ?_
    refine G_iload_n dX4_passOfColour_30 rfl rfl ?_
    refine G_iload dX4_passOfColour_31 rfl ?_
    refine G_iadd (v := (nI (first + (dg n t (tkE n t s.1))))) dX4_passOfColour_33 (nI_add _ _) ?_
    refine G_iconst (v := (nI 0)) dX4_passOfColour_34 (by decide) ?_
    refine G_iload_n dX4_passOfColour_35 rfl rfl ?_
    refine G_callVi (ν := uX4_passValue) (As := [.inr 3, .inl (nI (first + (dg n t (tkE n t s.1)))), .inl (nI 0), .inl (nI hi)]) dX4_passOfColour_36 nX4_67 kX4_passValue rfl rfl rfl rfl rfl (Nat.le_of_ble_eq_true rfl) (c_passVal (ix := first + dg n t (tkE n t s.1)) (lo := 0) (hi := hi) (s := (tkE n t (tkE n t s.1), s.2)) (TX_R (TX_R hT hF7) hF6) hR6 ⟨t2.1, hV.2⟩ (by omega) (by omega) hhi) ?_
    rintro _ M5 ⟨rfl, hF5, hR5⟩
    refine G_iret dX4_passOfColour_39 rfl bI_nar ?_
    rw [show pOf n t first hi s = pVal n t (first + dg n t (tkE n t s.1)) 0 hi (tkE n t (tkE n t s.1), s.2) from if_pos h12]
    exact ⟨rfl, FRR_t (FRR_t hF7 hF6) hF5, hR5⟩
  · refine G_iconst (v := (nI 0)) dX4_passOfColour_15 (by decide) ?_
    refine G_iret dX4_passOfColour_16 rfl (by decide) ?_
    rw [show pOf n t first hi s = (false, tkE n t s.1, s.2) from if_neg (by rw [h12]; decide)]
    exact ⟨rfl, hF7, hR7⟩
theorem l_cells {Q : AV → Mem → Prop} {d n : Nat} {t : Nat → Nat} {s : RT} {M : Mem} (hT : TX n t M) (hR : RDx n t s M) (hV : PV n s) (h6 : s.2.2 < 6) (h8 : tkE n t s.1 - tkS n t s.1 ≤ 8) (h3 : tkK n t s.1 = 3) (hQ : ∀ r M1, (fun r M1 => r = .inl (nI 1) ∧ FRR M M1 ∧ RDx n t (tkE n t s.1, updN (updN (pnt n t s.1 s.2.2 s.2.1 (tkE n t s.1 - tkS n t s.1)) 0 (tkE n t s.1 - tkS n t s.1)) 1 (s.2.2 + 1), s.2.2 + 1) M1) r M1 → Q r M1) : ∀ (k x : Nat) (M1 : Mem) (x2 x3 : Option AV), tkE n t s.1 - tkS n t s.1 - x = k → x ≤ tkE n t s.1 - tkS n t s.1 → FRR M M1 → RDx n t (s.1, pnt n t s.1 s.2.2 s.2.1 x, s.2.2) M1 → G l α D cA uX4_passCells none (d + 2) Q 55 [some (.inr 5), some (.inr 3), x2, x3, some (.inl (nI x))] [] M1 := by
  intro k
  induction k using Nat.strongRecOn with
  | _ k ih => ?_
  intro x M1 x2 x3 hk hx hF1 hR1
  have hT1 := TX_R hT hF1
  have tf := tok_TF (t := t) hV.1
  have tf1 := tf.1
  refine G_iload dX4_passCells_55 rfl ?_
  refine G_aload_n dX4_passCells_57 rfl rfl ?_
  refine G_callVi (ν := uX7_tokenLength) (As := []) dX4_passCells_58 nX4_80 kX7_tokenLength rfl rfl rfl rfl rfl (Nat.le_of_ble_eq_true rfl) (c_tlen (n := n) (t := t) (s := tkS n t s.1) (e := tkE n t s.1) (k := tkK n t s.1) hT1 hR1.1 (tok_TF hV.1)) ?_
  rintro _ M8 ⟨rfl, e9⟩
  subst M8
  refine Gn_icmp_ge (tgt := 92) dX4_passCells_61 (by decide) (by omega) (by omega) (fun h61 => ?_) (fun h61 => ?_)
  · have ex : x = tkE n t s.1 - tkS n t s.1 := by omega
    subst ex
    refine G_aload_n dX4_passCells_92 rfl rfl ?_
    refine G_dup dX4_passCells_93 ?_
    refine G_getI (v := (nI (s.2.2))) dX4_passCells_94 fX4_21 rfl rfl hR1.2.2 ?_
    refine G_iconst (v := (nI 1)) dX4_passCells_97 (by decide) ?_
    refine G_iadd (v := (nI ((s.2.2) + 1))) dX4_passCells_98 (nI_add _ _) ?_
    refine G_put dX4_passCells_99 pX4_21 rfl rfl ?_
    obtain ⟨M6, e6⟩ : ∃ M6, M6 = ms M1 5 1 (nI (s.2.2 + 1)) := ⟨_, rfl⟩
    rw [← e6]
    have hF6 : FRR M1 M6 := by subst e6; exact ⟨fun q a b c => ms_q b, by rw [ms_q (by decide)]⟩
    have hR6 : TKM (tkS n t s.1) (tkE n t s.1) (tkK n t s.1) M6 ∧ M6 7 = M1 7 ∧ M6 5 1 = nI (s.2.2 + 1) := by subst e6; exact ⟨⟨by rw [ms_q (by decide)]; exact hR1.1.1, by rw [ms_q (by decide)]; exact hR1.1.2.1, by rw [ms_q (by decide)]; exact hR1.1.2.2⟩, ms_q (by decide), by simp [ms, upd]⟩
    refine G_aload_n dX4_passCells_102 rfl rfl ?_
    refine G_getR (j := 6) dX4_passCells_103 fX4_12 rfl rfl ?_
    refine G_iconst (v := (nI 0)) dX4_passCells_106 (by decide) ?_
    refine G_aload_n dX4_passCells_107 rfl rfl ?_
    refine G_callVi (ν := uX7_tokenLength) (As := []) dX4_passCells_108 nX4_80 kX7_tokenLength rfl rfl rfl rfl rfl (Nat.le_of_ble_eq_true rfl) (c_tlen (n := n) (t := t) (s := tkS n t s.1) (e := tkE n t s.1) (k := tkK n t s.1) (TX_R hT1 hF6) hR6.1 (tok_TF hV.1)) ?_
    rintro _ M8 ⟨rfl, e9⟩
    subst M8
    refine G_callVv (ν := uX0_set) (As := [.inl (nI 0), .inl (nI (tkE n t s.1 - tkS n t s.1))]) dX4_passCells_111 nX4_95 kX0_set rfl rfl rfl rfl rfl (Nat.le_of_ble_eq_true rfl) (c_set (o := 6) (v := 7) rfl rfl (by decide)) ?_
    rintro _ M5 e5
    refine G_aload_n dX4_passCells_114 rfl rfl ?_
    refine G_getR (j := 6) dX4_passCells_115 fX4_12 rfl rfl ?_
    refine G_iconst (v := (nI 1)) dX4_passCells_118 (by decide) ?_
    refine G_aload_n dX4_passCells_119 rfl rfl ?_
    refine G_getI (v := (nI (s.2.2 + 1))) dX4_passCells_120 fX4_21 rfl rfl (by rw [e5, mo_q (by decide)]; exact hR6.2.2) ?_
    refine G_callVv (ν := uX0_set) (As := [.inl (nI 1), .inl (nI (s.2.2 + 1))]) dX4_passCells_123 nX4_95 kX0_set rfl rfl rfl rfl rfl (Nat.le_of_ble_eq_true rfl) (c_set (o := 6) (v := 7) rfl rfl (by decide)) ?_
    rintro _ M4 e4
    have hF4 : FRR M1 M4 := by
      refine FRR_t hF6 ⟨fun q a b c => by rw [e4, mo_q c, e5, mo_q c], by rw [e4, mo_q (by decide), e5, mo_q (by decide)]⟩
    have hR4 : RDx n t (s.1, updN (updN (pnt n t s.1 s.2.2 s.2.1 (tkE n t s.1 - tkS n t s.1)) 0 (tkE n t s.1 - tkS n t s.1)) 1 (s.2.2 + 1), s.2.2 + 1) M4 := by
      refine ⟨⟨?_, ?_, ?_⟩, fun j hj => ?_, ?_⟩
      · rw [e4, mo_q (by decide), e5, mo_q (by decide)]; exact hR6.1.1
      · rw [e4, mo_q (by decide), e5, mo_q (by decide)]; exact hR6.1.2.1
      · rw [e4, mo_q (by decide), e5, mo_q (by decide)]; exact hR6.1.2.2
      · rw [e4, mo_o, e5, mo_o, hR6.2.1]
        show upd (upd (M1 7) 0 (nI (tkE n t s.1 - tkS n t s.1))) 1 (nI (s.2.2 + 1)) j = nI (updN (updN (pnt n t s.1 s.2.2 s.2.1 (tkE n t s.1 - tkS n t s.1)) 0 (tkE n t s.1 - tkS n t s.1)) 1 (s.2.2 + 1) j)
        unfold upd updN
        by_cases a1 : j = 1
        · rw [if_pos a1, if_pos a1]
        · rw [if_neg a1, if_neg a1]
          by_cases a0 : j = 0
          · rw [if_pos a0, if_pos a0]
          · rw [if_neg a0, if_neg a0]
            exact hR1.2.1 j hj
      · rw [e4, mo_q (by decide), e5, mo_q (by decide)]; exact hR6.2.2
    refine G_aload_n dX4_passCells_126 rfl rfl ?_
    refine G_callVv (ν := uX7_toNextToken) (As := []) dX4_passCells_127 nX4_48 kX7_toNextToken rfl rfl rfl rfl rfl (Nat.le_of_ble_eq_true rfl) (c_nextR (s := (s.1, updN (updN (pnt n t s.1 s.2.2 s.2.1 (tkE n t s.1 - tkS n t s.1)) 0 (tkE n t s.1 - tkS n t s.1)) 1 (s.2.2 + 1), s.2.2 + 1)) (TX_R hT1 hF4) hR4 hV.1) ?_
    rintro _ M3 ⟨hF3, hR3⟩
    refine G_iconst (v := (nI 1)) dX4_passCells_130 (by decide) ?_
    refine G_iret dX4_passCells_131 rfl (by decide) ?_
    exact hQ _ _ ⟨rfl, FRR_t hF1 (FRR_t hF4 hF3), hR3⟩
  · refine G_aload_n dX4_passCells_64 rfl rfl ?_
    refine G_getR (j := 6) dX4_passCells_65 fX4_12 rfl rfl ?_
    refine G_iload dX4_passCells_68 rfl ?_
    refine G_aload_n dX4_passCells_70 rfl rfl ?_
    refine G_getI (v := (nI (s.2.2))) dX4_passCells_71 fX4_21 rfl rfl hR1.2.2 ?_
    refine G_callSi (ν := uX9_placeOf) (As := [.inl (nI x), .inl (nI (s.2.2))]) dX4_passCells_74 nX4_83 kX9_placeOf rfl rfl rfl (Nat.le_of_ble_eq_true rfl) (c_placeOf (x := x) (y := s.2.2) (by omega) h6) ?_
    rintro _ M8 ⟨rfl, e9⟩
    subst M8
    refine G_aload_n dX4_passCells_77 rfl rfl ?_
    refine G_iload dX4_passCells_78 rfl ?_
    refine G_callVi (ν := uX7_digit) (As := [.inl (nI x)]) dX4_passCells_80 nX4_87 kX7_digit rfl rfl rfl rfl rfl (Nat.le_of_ble_eq_true rfl) (c_digit (s := tkS n t s.1) (e := tkE n t s.1) (k := tkK n t s.1) hT1 hR1.1 tf h3 (by omega)) ?_
    rintro _ M8 ⟨rfl, e9⟩
    subst M8
    refine G_callVv (ν := uX0_paint) (As := [.inl (nI (8 * s.2.2 + x)), .inl (nI (t (tkS n t s.1 + x) - 48))]) dX4_passCells_83 nX4_91 kX0_paint rfl rfl rfl rfl rfl (Nat.le_of_ble_eq_true rfl) (c_paint (o := 6) (v := 7) rfl rfl (by omega)) ?_
    rintro _ M6 e6
    refine G_iinc (v := (nI (x + 1))) (L2 := [some (.inr 5), some (.inr 3), x2, x3, some (.inl (nI (x + 1)))]) dX4_passCells_86 rfl (nI_1 _) rfl ?_
    refine G_goto (tgt := 55) dX4_passCells_89 (by decide) ?_
    have hF6 : FRR M1 M6 := by subst e6; exact ⟨fun q a b c => mo_q c, by rw [mo_q (by decide)]⟩
    refine ih (tkE n t s.1 - tkS n t s.1 - (x + 1)) (by omega) (x + 1) M6 x2 x3 rfl (by omega) (FRR_t hF1 hF6) ?_
    subst e6
    refine ⟨⟨by rw [mo_q (by decide)]; exact hR1.1.1, by rw [mo_q (by decide)]; exact hR1.1.2.1, by rw [mo_q (by decide)]; exact hR1.1.2.2⟩, fun j hj => ?_, by rw [mo_q (by decide)]; exact hR1.2.2⟩
    rw [mo_o]
    show upd (M1 7) (12 + (8 * s.2.2 + x)) (nI (t (tkS n t s.1 + x) - 48)) j = nI (updN (pnt n t s.1 s.2.2 s.2.1 x) (12 + (8 * s.2.2 + x)) (t (tkS n t s.1 + x) - 48) j)
    unfold upd updN
    by_cases e : j = 12 + (8 * s.2.2 + x)
    · rw [if_pos e, if_pos e]
    · rw [if_neg e, if_neg e]; exact hR1.2.1 j hj
theorem c_cells_a {d n : Nat} {t : Nat → Nat} {s : RT} {M : Mem} (hT : TX n t M) (hR : RDx n t s M) (hV : PV n s) (hz : s.2.2 = 0) (h6 : s.2.2 < 6) : Call l α D cA uX4_passCells (d + 3) [.inr 5, .inr 3] M (fun r M1 => r = .inl (bI (pCells n t s).1) ∧ FRR M M1 ∧ RDx n t (pCells n t s).2 M1) := by
  refine Call.of kX4_passCells.1 (Nat.le_of_ble_eq_true rfl) ?_
  have hw9 := hV.2.2.2.1
  have h7 := hR.2.1 0 (by decide)
  have ew : (if s.2.2 = 0 then 1 else s.2.1 0) = 1 := if_pos hz
  have ew2 : (if s.2.2 = 0 then 8 else s.2.1 0) = 8 := if_pos hz
  refine G_aload_n dX4_passCells_0 rfl rfl ?_
  refine G_getI (v := (nI (s.2.2))) dX4_passCells_1 fX4_21 rfl rfl hR.2.2 ?_
  refine Gn_if_ne (tgt := 11) dX4_passCells_4 (by decide) (by omega) (fun h4 => ?_) (fun h4 => ?_)
  · omega
  · refine G_iconst (v := (nI 1)) dX4_passCells_7 (by decide) ?_
    refine G_goto (tgt := 18) dX4_passCells_8 (by decide) ?_
    refine G_istore_n (L2 := [some (.inr 5), some (.inr 3), some (.inl (nI 1)), none, none]) dX4_passCells_18 rfl (Nat.le_of_ble_eq_true rfl) rfl ?_
    refine G_aload_n dX4_passCells_19 rfl rfl ?_
    refine G_getI (v := (nI (s.2.2))) dX4_passCells_20 fX4_21 rfl rfl hR.2.2 ?_
    refine Gn_if_ne (tgt := 31) dX4_passCells_23 (by decide) (by omega) (fun h23 => ?_) (fun h23 => ?_)
    · omega
    · refine G_bipush (v := (nI 8)) dX4_passCells_26 (by decide) ?_
      refine G_goto (tgt := 38) dX4_passCells_28 (by decide) ?_
      refine G_istore_n (L2 := [some (.inr 5), some (.inr 3), some (.inl (nI 1)), some (.inl (nI 8)), none]) dX4_passCells_38 rfl (Nat.le_of_ble_eq_true rfl) rfl ?_
      refine G_aload_n dX4_passCells_39 rfl rfl ?_
      refine G_iload_n dX4_passCells_40 rfl rfl ?_
      refine G_iload_n dX4_passCells_41 rfl rfl ?_
      refine G_iconst (v := (nI 0)) dX4_passCells_42 (by decide) ?_
      refine G_iconst (v := (nI 3)) dX4_passCells_43 (by decide) ?_
      refine G_callVi (ν := uX7_isDigits) (As := [.inl (nI 1), .inl (nI 8), .inl (nI 0), .inl (nI 3)]) dX4_passCells_44 nX4_76 kX7_isDigits rfl rfl rfl rfl rfl (Nat.le_of_ble_eq_true rfl) (c_isDig (n := n) (t := t) (s := tkS n t s.1) (e := tkE n t s.1) (k := tkK n t s.1) hT hR.1 (tok_TF hV.1) (by omega) (by omega) (by omega) (by omega)) ?_
      rintro _ M8 ⟨rfl, e9⟩
      subst M8
      rw [show dec (isD t (tkS n t s.1) (tkE n t s.1) (tkK n t s.1) 1 8 0 3) = isDt n t s.1 1 8 0 3 from rfl]
      refine Gb_if_ne (tgt := 52) dX4_passCells_47 (by decide) (fun h47 => ?_) (fun h47 => ?_)
      · have hd := isDt_1 h47
        have ep : pCells n t s = (true, tkE n t s.1, updN (updN (pnt n t s.1 s.2.2 s.2.1 (tkE n t s.1 - tkS n t s.1)) 0 (tkE n t s.1 - tkS n t s.1)) 1 (s.2.2 + 1), s.2.2 + 1) := by rw [pCells, if_pos (show pcD n t s = true by rw [pcD, ew, ew2]; exact h47)]
        refine G_iconst (v := (nI 0)) dX4_passCells_52 (by decide) ?_
        refine G_istore (L2 := [some (.inr 5), some (.inr 3), some (.inl (nI 1)), some (.inl (nI 8)), some (.inl (nI 0))]) dX4_passCells_53 (Nat.le_of_ble_eq_true rfl) rfl ?_
        refine l_cells hT hR hV h6 (by omega) hd.1 (fun r M1 h => ?_) _ 0 M _ _ rfl (Nat.zero_le _) FRR_r hR
        rw [ep]
        exact h
      · refine G_iconst (v := (nI 0)) dX4_passCells_50 (by decide) ?_
        refine G_iret dX4_passCells_51 rfl (by decide) ?_
        rw [show pCells n t s = (false, s) by rw [pCells, if_neg (by rw [pcD, ew, ew2, h47]; decide)]]
        exact ⟨rfl, FRR_r, hR⟩
theorem c_cells_b {d n : Nat} {t : Nat → Nat} {s : RT} {M : Mem} (hT : TX n t M) (hR : RDx n t s M) (hV : PV n s) (hz : ¬ s.2.2 = 0) (h6 : s.2.2 < 6) : Call l α D cA uX4_passCells (d + 3) [.inr 5, .inr 3] M (fun r M1 => r = .inl (bI (pCells n t s).1) ∧ FRR M M1 ∧ RDx n t (pCells n t s).2 M1) := by
  refine Call.of kX4_passCells.1 (Nat.le_of_ble_eq_true rfl) ?_
  have hw9 := hV.2.2.2.1
  have h7 := hR.2.1 0 (by decide)
  have ew : (if s.2.2 = 0 then 1 else s.2.1 0) = s.2.1 0 := if_neg hz
  have ew2 : (if s.2.2 = 0 then 8 else s.2.1 0) = s.2.1 0 := if_neg hz
  refine G_aload_n dX4_passCells_0 rfl rfl ?_
  refine G_getI (v := (nI (s.2.2))) dX4_passCells_1 fX4_21 rfl rfl hR.2.2 ?_
  refine Gn_if_ne (tgt := 11) dX4_passCells_4 (by decide) (by omega) (fun h4 => ?_) (fun h4 => ?_)
  · refine G_aload_n dX4_passCells_11 rfl rfl ?_
    refine G_getR (j := 6) dX4_passCells_12 fX4_12 rfl rfl ?_
    refine G_callVi (ν := uX0_width) (As := []) dX4_passCells_15 nX4_73 kX0_width rfl rfl rfl rfl rfl (Nat.le_of_ble_eq_true rfl) (c_width (o := 6) (v := 7) rfl rfl h7) ?_
    rintro _ M8 ⟨rfl, e9⟩
    subst M8
    refine G_istore_n (L2 := [some (.inr 5), some (.inr 3), some (.inl (nI (s.2.1 0))), none, none]) dX4_passCells_18 rfl (Nat.le_of_ble_eq_true rfl) rfl ?_
    refine G_aload_n dX4_passCells_19 rfl rfl ?_
    refine G_getI (v := (nI (s.2.2))) dX4_passCells_20 fX4_21 rfl rfl hR.2.2 ?_
    refine Gn_if_ne (tgt := 31) dX4_passCells_23 (by decide) (by omega) (fun h23 => ?_) (fun h23 => ?_)
    · refine G_aload_n dX4_passCells_31 rfl rfl ?_
      refine G_getR (j := 6) dX4_passCells_32 fX4_12 rfl rfl ?_
      refine G_callVi (ν := uX0_width) (As := []) dX4_passCells_35 nX4_73 kX0_width rfl rfl rfl rfl rfl (Nat.le_of_ble_eq_true rfl) (c_width (o := 6) (v := 7) rfl rfl h7) ?_
      rintro _ M8 ⟨rfl, e9⟩
      subst M8
      refine G_istore_n (L2 := [some (.inr 5), some (.inr 3), some (.inl (nI (s.2.1 0))), some (.inl (nI (s.2.1 0))), none]) dX4_passCells_38 rfl (Nat.le_of_ble_eq_true rfl) rfl ?_
      refine G_aload_n dX4_passCells_39 rfl rfl ?_
      refine G_iload_n dX4_passCells_40 rfl rfl ?_
      refine G_iload_n dX4_passCells_41 rfl rfl ?_
      refine G_iconst (v := (nI 0)) dX4_passCells_42 (by decide) ?_
      refine G_iconst (v := (nI 3)) dX4_passCells_43 (by decide) ?_
      refine G_callVi (ν := uX7_isDigits) (As := [.inl (nI (s.2.1 0)), .inl (nI (s.2.1 0)), .inl (nI 0), .inl (nI 3)]) dX4_passCells_44 nX4_76 kX7_isDigits rfl rfl rfl rfl rfl (Nat.le_of_ble_eq_true rfl) (c_isDig (n := n) (t := t) (s := tkS n t s.1) (e := tkE n t s.1) (k := tkK n t s.1) hT hR.1 (tok_TF hV.1) (by omega) (by omega) (by omega) (by omega)) ?_
      rintro _ M8 ⟨rfl, e9⟩
      subst M8
      rw [show dec (isD t (tkS n t s.1) (tkE n t s.1) (tkK n t s.1) (s.2.1 0) (s.2.1 0) 0 3) = isDt n t s.1 (s.2.1 0) (s.2.1 0) 0 3 from rfl]
      refine Gb_if_ne (tgt := 52) dX4_passCells_47 (by decide) (fun h47 => ?_) (fun h47 => ?_)
      · have hd := isDt_1 h47
        have ep : pCells n t s = (true, tkE n t s.1, updN (updN (pnt n t s.1 s.2.2 s.2.1 (tkE n t s.1 - tkS n t s.1)) 0 (tkE n t s.1 - tkS n t s.1)) 1 (s.2.2 + 1), s.2.2 + 1) := by rw [pCells, if_pos (show pcD n t s = true by rw [pcD, ew, ew2]; exact h47)]
        refine G_iconst (v := (nI 0)) dX4_passCells_52 (by decide) ?_
        refine G_istore (L2 := [some (.inr 5), some (.inr 3), some (.inl (nI (s.2.1 0))), some (.inl (nI (s.2.1 0))), some (.inl (nI 0))]) dX4_passCells_53 (Nat.le_of_ble_eq_true rfl) rfl ?_
        refine l_cells hT hR hV h6 (by omega) hd.1 (fun r M1 h => ?_) _ 0 M _ _ rfl (Nat.zero_le _) FRR_r hR
        rw [ep]
        exact h
      · refine G_iconst (v := (nI 0)) dX4_passCells_50 (by decide) ?_
        refine G_iret dX4_passCells_51 rfl (by decide) ?_
        rw [show pCells n t s = (false, s) by rw [pCells, if_neg (by rw [pcD, ew, ew2, h47]; decide)]]
        exact ⟨rfl, FRR_r, hR⟩
    · omega
  · omega
theorem c_cells {d n : Nat} {t : Nat → Nat} {s : RT} {M : Mem} (hT : TX n t M) (hR : RDx n t s M) (hV : PV n s) (h6 : s.2.2 < 6) : Call l α D cA uX4_passCells (d + 3) [.inr 5, .inr 3] M (fun r M1 => r = .inl (bI (pCells n t s).1) ∧ FRR M M1 ∧ RDx n t (pCells n t s).2 M1) := by
  by_cases hz : s.2.2 = 0
  · exact c_cells_a hT hR hV hz h6
  · exact c_cells_b hT hR hV hz h6
theorem c_passItem {d n : Nat} {t : Nat → Nat} {s : RT} {M : Mem} (hT : TX n t M) (hR : RDx n t s M) (hV : PV n s) : Call l α D cA uX4_passItem (d + 5) [.inr 5, .inr 3] M (fun r M1 => r = .inl (bI (pItem n t s).1) ∧ FRR M M1 ∧ RDx n t (pItem n t s).2 M1) := by
  refine Call.of kX4_passItem.1 (Nat.le_of_ble_eq_true rfl) ?_
  have hVn : PV n (tkE n t s.1, s.2) := ⟨(tkE_in hV.1).1, hV.2⟩
  have hr6 := hV.2.1
  refine G_aload_n dX4_passItem_0 rfl rfl ?_
  refine G_ldcS (i := 0) dX4_passItem_1 rfl (by decide) rfl ?_
  refine G_callVi (ν := uX7_isWord) (As := [.inr (1000 + 0)]) dX4_passItem_3 nX4_44 kX7_isWord rfl rfl rfl rfl rfl (Nat.le_of_ble_eq_true rfl) (c_isWord (n := n) (t := t) (w := 0) hT hR.1 (tok_TF hV.1) (by decide)) ?_
  rintro _ M8 ⟨rfl, e9⟩
  subst M8
  rw [show dec (isW t (tkS n t s.1) (tkE n t s.1) (tkK n t s.1) 0) = isWt n t s.1 0 from rfl]
  refine Gb_if_eq (tgt := 44) dX4_passItem_6 (by decide) (fun h6 => ?_) (fun h6 => ?_)
  · refine G_aload_n dX4_passItem_44 rfl rfl ?_
    refine G_ldcS (i := 1) dX4_passItem_45 rfl (by decide) rfl ?_
    refine G_callVi (ν := uX7_isWord) (As := [.inr (1000 + 1)]) dX4_passItem_47 nX4_44 kX7_isWord rfl rfl rfl rfl rfl (Nat.le_of_ble_eq_true rfl) (c_isWord (n := n) (t := t) (w := 1) hT hR.1 (tok_TF hV.1) (by decide)) ?_
    rintro _ M8 ⟨rfl, e9⟩
    subst M8
    rw [show dec (isW t (tkS n t s.1) (tkE n t s.1) (tkK n t s.1) 1) = isWt n t s.1 1 from rfl]
    refine Gb_if_eq (tgt := 77) dX4_passItem_50 (by decide) (fun h50 => ?_) (fun h50 => ?_)
    · refine G_aload_n dX4_passItem_77 rfl rfl ?_
      refine G_ldcS (i := 2) dX4_passItem_78 rfl (by decide) rfl ?_
      refine G_callVi (ν := uX7_isWord) (As := [.inr (1000 + 2)]) dX4_passItem_80 nX4_44 kX7_isWord rfl rfl rfl rfl rfl (Nat.le_of_ble_eq_true rfl) (c_isWord (n := n) (t := t) (w := 2) hT hR.1 (tok_TF hV.1) (by decide)) ?_
      rintro _ M8 ⟨rfl, e9⟩
      subst M8
      rw [show dec (isW t (tkS n t s.1) (tkE n t s.1) (tkK n t s.1) 2) = isWt n t s.1 2 from rfl]
      refine Gb_if_eq (tgt := 112) dX4_passItem_83 (by decide) (fun h83 => ?_) (fun h83 => ?_)
      · refine G_aload_n dX4_passItem_112 rfl rfl ?_
        refine G_ldcS (i := 3) dX4_passItem_113 rfl (by decide) rfl ?_
        refine G_callVi (ν := uX7_isWord) (As := [.inr (1000 + 3)]) dX4_passItem_115 nX4_44 kX7_isWord rfl rfl rfl rfl rfl (Nat.le_of_ble_eq_true rfl) (c_isWord (n := n) (t := t) (w := 3) hT hR.1 (tok_TF hV.1) (by decide)) ?_
        rintro _ M8 ⟨rfl, e9⟩
        subst M8
        rw [show dec (isW t (tkS n t s.1) (tkE n t s.1) (tkK n t s.1) 3) = isWt n t s.1 3 from rfl]
        refine Gb_if_eq (tgt := 150) dX4_passItem_118 (by decide) (fun h118 => ?_) (fun h118 => ?_)
        · refine G_aload_n dX4_passItem_150 rfl rfl ?_
          refine G_ldcS (i := 4) dX4_passItem_151 rfl (by decide) rfl ?_
          refine G_callVi (ν := uX7_isWord) (As := [.inr (1000 + 4)]) dX4_passItem_153 nX4_44 kX7_isWord rfl rfl rfl rfl rfl (Nat.le_of_ble_eq_true rfl) (c_isWord (n := n) (t := t) (w := 4) hT hR.1 (tok_TF hV.1) (by decide)) ?_
          rintro _ M8 ⟨rfl, e9⟩
          subst M8
          rw [show dec (isW t (tkS n t s.1) (tkE n t s.1) (tkK n t s.1) 4) = isWt n t s.1 4 from rfl]
          refine Gb_if_eq (tgt := 188) dX4_passItem_156 (by decide) (fun h156 => ?_) (fun h156 => ?_)
          · refine G_iconst (v := (nI 0)) dX4_passItem_188 (by decide) ?_
            refine G_iret dX4_passItem_189 rfl (by decide) ?_
            rw [pItem, if_neg (fun z => absurd z.1 (by rw [h6]; decide)), if_neg (by rw [h50]; decide), if_neg (by rw [h83]; decide), if_neg (by rw [h118]; decide), if_neg (by rw [h156]; decide)]
            exact ⟨rfl, FRR_r, hR⟩
          · refine G_aload_n dX4_passItem_159 rfl rfl ?_
            refine G_callVv (ν := uX7_toNextToken) (As := []) dX4_passItem_160 nX4_48 kX7_toNextToken rfl rfl rfl rfl rfl (Nat.le_of_ble_eq_true rfl) (c_nextR hT hR hV.1) ?_
            rintro _ M7 ⟨hF7, hR7⟩
            refine G_aload_n dX4_passItem_163 rfl rfl ?_
            refine G_aload_n dX4_passItem_164 rfl rfl ?_
            refine G_iconst (v := (nI 3)) dX4_passItem_165 (by decide) ?_
            refine G_iconst (v := (nI 0)) dX4_passItem_166 (by decide) ?_
            refine G_iconst (v := (nI 2)) dX4_passItem_167 (by decide) ?_
            refine G_callVi (ν := uX4_passValue) (As := [.inr 3, .inl (nI 3), .inl (nI 0), .inl (nI 2)]) dX4_passItem_168 nX4_67 kX4_passValue rfl rfl rfl rfl rfl (Nat.le_of_ble_eq_true rfl) (c_passVal (s := (tkE n t s.1, s.2)) (TX_R hT hF7) hR7 hVn (by decide) (by decide) (by decide)) ?_
            rintro _ M5 ⟨rfl, hF5, hR5⟩
            have hFa : FRR M M5 := FRR_t hF7 hF5
            have hRa := hR5
            have hVa := (pVal_V (t := t) (ix := 3) (lo := 0) (hi := 2) hVn (fun v _ _ => by omega)).1
            refine Gb_if_eq (tgt := 186) dX4_passItem_171 (by decide) (fun h171 => ?_) (fun h171 => ?_)
            · refine G_iconst (v := (nI 0)) dX4_passItem_186 (by decide) ?_
              refine G_iret dX4_passItem_187 rfl (by decide) ?_
              rw [pItem, if_neg (fun z => absurd z.1 (by rw [h6]; decide)), if_neg (by rw [h50]; decide), if_neg (by rw [h83]; decide), if_neg (by rw [h118]; decide), if_pos h156, bnd, if_neg (by rw [h171]; decide)]
              exact ⟨congrArg Sum.inl (bI_f h171), hFa, hRa⟩
            · refine G_aload_n dX4_passItem_174 rfl rfl ?_
              refine G_aload_n dX4_passItem_175 rfl rfl ?_
              refine G_callVi (ν := uX4_passSemicolon) (As := [.inr 3]) dX4_passItem_176 nX4_54 kX4_passSemicolon rfl rfl rfl rfl rfl (Nat.le_of_ble_eq_true rfl) (c_semi (s := (pVal n t 3 0 2 (tkE n t s.1, s.2)).2) (TX_R hT hFa) hRa hVa) ?_
              rintro _ M6 ⟨rfl, hF6, hR6⟩
              refine Gb_if_eq (tgt := 186) dX4_passItem_179 (by decide) (fun h179 => ?_) (fun h179 => ?_)
              · refine G_iconst (v := (nI 0)) dX4_passItem_186 (by decide) ?_
                refine G_iret dX4_passItem_187 rfl (by decide) ?_
                rw [pItem, if_neg (fun z => absurd z.1 (by rw [h6]; decide)), if_neg (by rw [h50]; decide), if_neg (by rw [h83]; decide), if_neg (by rw [h118]; decide), if_pos h156, bnd, if_pos h171]
                exact ⟨congrArg Sum.inl (bI_f h179), FRR_t hFa hF6, hR6⟩
              · refine G_iconst (v := (nI 1)) dX4_passItem_182 (by decide) ?_
                refine G_goto (tgt := 187) dX4_passItem_183 (by decide) ?_
                refine G_iret dX4_passItem_187 rfl (by decide) ?_
                rw [pItem, if_neg (fun z => absurd z.1 (by rw [h6]; decide)), if_neg (by rw [h50]; decide), if_neg (by rw [h83]; decide), if_neg (by rw [h118]; decide), if_pos h156, bnd, if_pos h171]
                exact ⟨congrArg Sum.inl (bI_t h179), FRR_t hFa hF6, hR6⟩
        · refine G_aload_n dX4_passItem_121 rfl rfl ?_
          refine G_callVv (ν := uX7_toNextToken) (As := []) dX4_passItem_122 nX4_48 kX7_toNextToken rfl rfl rfl rfl rfl (Nat.le_of_ble_eq_true rfl) (c_nextR hT hR hV.1) ?_
          rintro _ M7 ⟨hF7, hR7⟩
          refine G_aload_n dX4_passItem_125 rfl rfl ?_
          refine G_aload_n dX4_passItem_126 rfl rfl ?_
          refine G_iconst (v := (nI 2)) dX4_passItem_127 (by decide) ?_
          refine G_iconst (v := (nI 1)) dX4_passItem_128 (by decide) ?_
          refine G_iconst (v := (nI 5)) dX4_passItem_129 (by decide) ?_
          refine G_callVi (ν := uX4_passValue) (As := [.inr 3, .inl (nI 2), .inl (nI 1), .inl (nI 5)]) dX4_passItem_130 nX4_67 kX4_passValue rfl rfl rfl rfl rfl (Nat.le_of_ble_eq_true rfl) (c_passVal (s := (tkE n t s.1, s.2)) (TX_R hT hF7) hR7 hVn (by decide) (by decide) (by decide)) ?_
          rintro _ M5 ⟨rfl, hF5, hR5⟩
          have hFa : FRR M M5 := FRR_t hF7 hF5
          have hRa := hR5
          have hVa := (pVal_V (t := t) (ix := 2) (lo := 1) (hi := 5) hVn (fun v _ _ => by omega)).1
          refine Gb_if_eq (tgt := 148) dX4_passItem_133 (by decide) (fun h133 => ?_) (fun h133 => ?_)
          · refine G_iconst (v := (nI 0)) dX4_passItem_148 (by decide) ?_
            refine G_iret dX4_passItem_149 rfl (by decide) ?_
            rw [pItem, if_neg (fun z => absurd z.1 (by rw [h6]; decide)), if_neg (by rw [h50]; decide), if_neg (by rw [h83]; decide), if_pos h118, bnd, if_neg (by rw [h133]; decide)]
            exact ⟨congrArg Sum.inl (bI_f h133), hFa, hRa⟩
          · refine G_aload_n dX4_passItem_136 rfl rfl ?_
            refine G_aload_n dX4_passItem_137 rfl rfl ?_
            refine G_callVi (ν := uX4_passSemicolon) (As := [.inr 3]) dX4_passItem_138 nX4_54 kX4_passSemicolon rfl rfl rfl rfl rfl (Nat.le_of_ble_eq_true rfl) (c_semi (s := (pVal n t 2 1 5 (tkE n t s.1, s.2)).2) (TX_R hT hFa) hRa hVa) ?_
            rintro _ M6 ⟨rfl, hF6, hR6⟩
            refine Gb_if_eq (tgt := 148) dX4_passItem_141 (by decide) (fun h141 => ?_) (fun h141 => ?_)
            · refine G_iconst (v := (nI 0)) dX4_passItem_148 (by decide) ?_
              refine G_iret dX4_passItem_149 rfl (by decide) ?_
              rw [pItem, if_neg (fun z => absurd z.1 (by rw [h6]; decide)), if_neg (by rw [h50]; decide), if_neg (by rw [h83]; decide), if_pos h118, bnd, if_pos h133]
              exact ⟨congrArg Sum.inl (bI_f h141), FRR_t hFa hF6, hR6⟩
            · refine G_iconst (v := (nI 1)) dX4_passItem_144 (by decide) ?_
              refine G_goto (tgt := 149) dX4_passItem_145 (by decide) ?_
              refine G_iret dX4_passItem_149 rfl (by decide) ?_
              rw [pItem, if_neg (fun z => absurd z.1 (by rw [h6]; decide)), if_neg (by rw [h50]; decide), if_neg (by rw [h83]; decide), if_pos h118, bnd, if_pos h133]
              exact ⟨congrArg Sum.inl (bI_t h141), FRR_t hFa hF6, hR6⟩
      · refine G_aload_n dX4_passItem_86 rfl rfl ?_
        refine G_aload_n dX4_passItem_87 rfl rfl ?_
        refine G_bipush (v := (nI 8)) dX4_passItem_88 (by decide) ?_
        refine G_bipush (v := (nI 9)) dX4_passItem_90 (by decide) ?_
        refine G_callVi (ν := uX4_passOfColour) (As := [.inr 3, .inl (nI 8), .inl (nI 9)]) dX4_passItem_92 nX4_59 kX4_passOfColour rfl rfl rfl rfl rfl (Nat.le_of_ble_eq_true rfl) (c_passOf hT hR hV (by decide) (by decide)) ?_
        rintro _ M5 ⟨rfl, hF5, hR5⟩
        have hFa : FRR M M5 := hF5
        have hRa := hR5
        have hVa := (pOf_V (t := t) hV (Or.inr ⟨rfl, rfl⟩)).1
        refine Gb_if_eq (tgt := 110) dX4_passItem_95 (by decide) (fun h95 => ?_) (fun h95 => ?_)
        · refine G_iconst (v := (nI 0)) dX4_passItem_110 (by decide) ?_
          refine G_iret dX4_passItem_111 rfl (by decide) ?_
          rw [pItem, if_neg (fun z => absurd z.1 (by rw [h6]; decide)), if_neg (by rw [h50]; decide), if_pos h83, bnd, if_neg (by rw [h95]; decide)]
          exact ⟨congrArg Sum.inl (bI_f h95), hFa, hRa⟩
        · refine G_aload_n dX4_passItem_98 rfl rfl ?_
          refine G_aload_n dX4_passItem_99 rfl rfl ?_
          refine G_callVi (ν := uX4_passSemicolon) (As := [.inr 3]) dX4_passItem_100 nX4_54 kX4_passSemicolon rfl rfl rfl rfl rfl (Nat.le_of_ble_eq_true rfl) (c_semi (s := (pOf n t 8 9 s).2) (TX_R hT hFa) hRa hVa) ?_
          rintro _ M6 ⟨rfl, hF6, hR6⟩
          refine Gb_if_eq (tgt := 110) dX4_passItem_103 (by decide) (fun h103 => ?_) (fun h103 => ?_)
          · refine G_iconst (v := (nI 0)) dX4_passItem_110 (by decide) ?_
            refine G_iret dX4_passItem_111 rfl (by decide) ?_
            rw [pItem, if_neg (fun z => absurd z.1 (by rw [h6]; decide)), if_neg (by rw [h50]; decide), if_pos h83, bnd, if_pos h95]
            exact ⟨congrArg Sum.inl (bI_f h103), FRR_t hFa hF6, hR6⟩
          · refine G_iconst (v := (nI 1)) dX4_passItem_106 (by decide) ?_
            refine G_goto (tgt := 111) dX4_passItem_107 (by decide) ?_
            refine G_iret dX4_passItem_111 rfl (by decide) ?_
            rw [pItem, if_neg (fun z => absurd z.1 (by rw [h6]; decide)), if_neg (by rw [h50]; decide), if_pos h83, bnd, if_pos h95]
            exact ⟨congrArg Sum.inl (bI_t h103), FRR_t hFa hF6, hR6⟩
    · refine G_aload_n dX4_passItem_53 rfl rfl ?_
      refine G_aload_n dX4_passItem_54 rfl rfl ?_
      refine G_iconst (v := (nI 4)) dX4_passItem_55 (by decide) ?_
      refine G_iconst (v := (nI 1)) dX4_passItem_56 (by decide) ?_
      refine G_callVi (ν := uX4_passOfColour) (As := [.inr 3, .inl (nI 4), .inl (nI 1)]) dX4_passItem_57 nX4_59 kX4_passOfColour rfl rfl rfl rfl rfl (Nat.le_of_ble_eq_true rfl) (c_passOf hT hR hV (by decide) (by decide)) ?_
      rintro _ M5 ⟨rfl, hF5, hR5⟩
      have hFa : FRR M M5 := hF5
      have hRa := hR5
      have hVa := (pOf_V (t := t) hV (Or.inl ⟨rfl, rfl⟩)).1
      refine Gb_if_eq (tgt := 75) dX4_passItem_60 (by decide) (fun h60 => ?_) (fun h60 => ?_)
      · refine G_iconst (v := (nI 0)) dX4_passItem_75 (by decide) ?_
        refine G_iret dX4_passItem_76 rfl (by decide) ?_
        rw [pItem, if_neg (fun z => absurd z.1 (by rw [h6]; decide)), if_pos h50, bnd, if_neg (by rw [h60]; decide)]
        exact ⟨congrArg Sum.inl (bI_f h60), hFa, hRa⟩
      · refine G_aload_n dX4_passItem_63 rfl rfl ?_
        refine G_aload_n dX4_passItem_64 rfl rfl ?_
        refine G_callVi (ν := uX4_passSemicolon) (As := [.inr 3]) dX4_passItem_65 nX4_54 kX4_passSemicolon rfl rfl rfl rfl rfl (Nat.le_of_ble_eq_true rfl) (c_semi (s := (pOf n t 4 1 s).2) (TX_R hT hFa) hRa hVa) ?_
        rintro _ M6 ⟨rfl, hF6, hR6⟩
        refine Gb_if_eq (tgt := 75) dX4_passItem_68 (by decide) (fun h68 => ?_) (fun h68 => ?_)
        · refine G_iconst (v := (nI 0)) dX4_passItem_75 (by decide) ?_
          refine G_iret dX4_passItem_76 rfl (by decide) ?_
          rw [pItem, if_neg (fun z => absurd z.1 (by rw [h6]; decide)), if_pos h50, bnd, if_pos h60]
          exact ⟨congrArg Sum.inl (bI_f h68), FRR_t hFa hF6, hR6⟩
        · refine G_iconst (v := (nI 1)) dX4_passItem_71 (by decide) ?_
          refine G_goto (tgt := 76) dX4_passItem_72 (by decide) ?_
          refine G_iret dX4_passItem_76 rfl (by decide) ?_
          rw [pItem, if_neg (fun z => absurd z.1 (by rw [h6]; decide)), if_pos h50, bnd, if_pos h60]
          exact ⟨congrArg Sum.inl (bI_t h68), FRR_t hFa hF6, hR6⟩
  · refine G_aload_n dX4_passItem_9 rfl rfl ?_
    refine G_getI (v := (nI (s.2.2))) dX4_passItem_10 fX4_21 rfl rfl hR.2.2 ?_
    refine G_bipush (v := (nI 6)) dX4_passItem_13 (by decide) ?_
    refine Gn_icmp_ge (tgt := 44) dX4_passItem_15 (by decide) (by omega) (by omega) (fun h15 => ?_) (fun h15 => ?_)
    · refine G_aload_n dX4_passItem_44 rfl rfl ?_
      refine G_ldcS (i := 1) dX4_passItem_45 rfl (by decide) rfl ?_
      refine G_callVi (ν := uX7_isWord) (As := [.inr (1000 + 1)]) dX4_passItem_47 nX4_44 kX7_isWord rfl rfl rfl rfl rfl (Nat.le_of_ble_eq_true rfl) (c_isWord (n := n) (t := t) (w := 1) hT hR.1 (tok_TF hV.1) (by decide)) ?_
      rintro _ M8 ⟨rfl, e9⟩
      subst M8
      rw [show dec (isW t (tkS n t s.1) (tkE n t s.1) (tkK n t s.1) 1) = isWt n t s.1 1 from rfl]
      refine Gb_if_eq (tgt := 77) dX4_passItem_50 (by decide) (fun h50 => ?_) (fun h50 => ?_)
      · refine G_aload_n dX4_passItem_77 rfl rfl ?_
        refine G_ldcS (i := 2) dX4_passItem_78 rfl (by decide) rfl ?_
        refine G_callVi (ν := uX7_isWord) (As := [.inr (1000 + 2)]) dX4_passItem_80 nX4_44 kX7_isWord rfl rfl rfl rfl rfl (Nat.le_of_ble_eq_true rfl) (c_isWord (n := n) (t := t) (w := 2) hT hR.1 (tok_TF hV.1) (by decide)) ?_
        rintro _ M8 ⟨rfl, e9⟩
        subst M8
        rw [show dec (isW t (tkS n t s.1) (tkE n t s.1) (tkK n t s.1) 2) = isWt n t s.1 2 from rfl]
        refine Gb_if_eq (tgt := 112) dX4_passItem_83 (by decide) (fun h83 => ?_) (fun h83 => ?_)
        · refine G_aload_n dX4_passItem_112 rfl rfl ?_
          refine G_ldcS (i := 3) dX4_passItem_113 rfl (by decide) rfl ?_
          refine G_callVi (ν := uX7_isWord) (As := [.inr (1000 + 3)]) dX4_passItem_115 nX4_44 kX7_isWord rfl rfl rfl rfl rfl (Nat.le_of_ble_eq_true rfl) (c_isWord (n := n) (t := t) (w := 3) hT hR.1 (tok_TF hV.1) (by decide)) ?_
          rintro _ M8 ⟨rfl, e9⟩
          subst M8
          rw [show dec (isW t (tkS n t s.1) (tkE n t s.1) (tkK n t s.1) 3) = isWt n t s.1 3 from rfl]
          refine Gb_if_eq (tgt := 150) dX4_passItem_118 (by decide) (fun h118 => ?_) (fun h118 => ?_)
          · refine G_aload_n dX4_passItem_150 rfl rfl ?_
            refine G_ldcS (i := 4) dX4_passItem_151 rfl (by decide) rfl ?_
            refine G_callVi (ν := uX7_isWord) (As := [.inr (1000 + 4)]) dX4_passItem_153 nX4_44 kX7_isWord rfl rfl rfl rfl rfl (Nat.le_of_ble_eq_true rfl) (c_isWord (n := n) (t := t) (w := 4) hT hR.1 (tok_TF hV.1) (by decide)) ?_
            rintro _ M8 ⟨rfl, e9⟩
            subst M8
            rw [show dec (isW t (tkS n t s.1) (tkE n t s.1) (tkK n t s.1) 4) = isWt n t s.1 4 from rfl]
            refine Gb_if_eq (tgt := 188) dX4_passItem_156 (by decide) (fun h156 => ?_) (fun h156 => ?_)
            · refine G_iconst (v := (nI 0)) dX4_passItem_188 (by decide) ?_
              refine G_iret dX4_passItem_189 rfl (by decide) ?_
              rw [pItem, if_neg (fun z => absurd z.2 (by omega)), if_neg (by rw [h50]; decide), if_neg (by rw [h83]; decide), if_neg (by rw [h118]; decide), if_neg (by rw [h156]; decide)]
              exact ⟨rfl, FRR_r, hR⟩
            · refine G_aload_n dX4_passItem_159 rfl rfl ?_
              refine G_callVv (ν := uX7_toNextToken) (As := []) dX4_passItem_160 nX4_48 kX7_toNextToken rfl rfl rfl rfl rfl (Nat.le_of_ble_eq_true rfl) (c_nextR hT hR hV.1) ?_
              rintro _ M7 ⟨hF7, hR7⟩
              refine G_aload_n dX4_passItem_163 rfl rfl ?_
              refine G_aload_n dX4_passItem_164 rfl rfl ?_
              refine G_iconst (v := (nI 3)) dX4_passItem_165 (by decide) ?_
              refine G_iconst (v := (nI 0)) dX4_passItem_166 (by decide) ?_
              refine G_iconst (v := (nI 2)) dX4_passItem_167 (by decide) ?_
              refine G_callVi (ν := uX4_passValue) (As := [.inr 3, .inl (nI 3), .inl (nI 0), .inl (nI 2)]) dX4_passItem_168 nX4_67 kX4_passValue rfl rfl rfl rfl rfl (Nat.le_of_ble_eq_true rfl) (c_passVal (s := (tkE n t s.1, s.2)) (TX_R hT hF7) hR7 hVn (by decide) (by decide) (by decide)) ?_
              rintro _ M5 ⟨rfl, hF5, hR5⟩
              have hFa : FRR M M5 := FRR_t hF7 hF5
              have hRa := hR5
              have hVa := (pVal_V (t := t) (ix := 3) (lo := 0) (hi := 2) hVn (fun v _ _ => by omega)).1
              refine Gb_if_eq (tgt := 186) dX4_passItem_171 (by decide) (fun h171 => ?_) (fun h171 => ?_)
              · refine G_iconst (v := (nI 0)) dX4_passItem_186 (by decide) ?_
                refine G_iret dX4_passItem_187 rfl (by decide) ?_
                rw [pItem, if_neg (fun z => absurd z.2 (by omega)), if_neg (by rw [h50]; decide), if_neg (by rw [h83]; decide), if_neg (by rw [h118]; decide), if_pos h156, bnd, if_neg (by rw [h171]; decide)]
                exact ⟨congrArg Sum.inl (bI_f h171), hFa, hRa⟩
              · refine G_aload_n dX4_passItem_174 rfl rfl ?_
                refine G_aload_n dX4_passItem_175 rfl rfl ?_
                refine G_callVi (ν := uX4_passSemicolon) (As := [.inr 3]) dX4_passItem_176 nX4_54 kX4_passSemicolon rfl rfl rfl rfl rfl (Nat.le_of_ble_eq_true rfl) (c_semi (s := (pVal n t 3 0 2 (tkE n t s.1, s.2)).2) (TX_R hT hFa) hRa hVa) ?_
                rintro _ M6 ⟨rfl, hF6, hR6⟩
                refine Gb_if_eq (tgt := 186) dX4_passItem_179 (by decide) (fun h179 => ?_) (fun h179 => ?_)
                · refine G_iconst (v := (nI 0)) dX4_passItem_186 (by decide) ?_
                  refine G_iret dX4_passItem_187 rfl (by decide) ?_
                  rw [pItem, if_neg (fun z => absurd z.2 (by omega)), if_neg (by rw [h50]; decide), if_neg (by rw [h83]; decide), if_neg (by rw [h118]; decide), if_pos h156, bnd, if_pos h171]
                  exact ⟨congrArg Sum.inl (bI_f h179), FRR_t hFa hF6, hR6⟩
                · refine G_iconst (v := (nI 1)) dX4_passItem_182 (by decide) ?_
                  refine G_goto (tgt := 187) dX4_passItem_183 (by decide) ?_
                  refine G_iret dX4_passItem_187 rfl (by decide) ?_
                  rw [pItem, if_neg (fun z => absurd z.2 (by omega)), if_neg (by rw [h50]; decide), if_neg (by rw [h83]; decide), if_neg (by rw [h118]; decide), if_pos h156, bnd, if_pos h171]
                  exact ⟨congrArg Sum.inl (bI_t h179), FRR_t hFa hF6, hR6⟩
          · refine G_aload_n dX4_passItem_121 rfl rfl ?_
            refine G_callVv (ν := uX7_toNextToken) (As := []) dX4_passItem_122 nX4_48 kX7_toNextToken rfl rfl rfl rfl rfl (Nat.le_of_ble_eq_true rfl) (c_nextR hT hR hV.1) ?_
            rintro _ M7 ⟨hF7, hR7⟩
            refine G_aload_n dX4_passItem_125 rfl rfl ?_
            refine G_aload_n dX4_passItem_126 rfl rfl ?_
            refine G_iconst (v := (nI 2)) dX4_passItem_127 (by decide) ?_
            refine G_iconst (v := (nI 1)) dX4_passItem_128 (by decide) ?_
            refine G_iconst (v := (nI 5)) dX4_passItem_129 (by decide) ?_
            refine G_callVi (ν := uX4_passValue) (As := [.inr 3, .inl (nI 2), .inl (nI 1), .inl (nI 5)]) dX4_passItem_130 nX4_67 kX4_passValue rfl rfl rfl rfl rfl (Nat.le_of_ble_eq_true rfl) (c_passVal (s := (tkE n t s.1, s.2)) (TX_R hT hF7) hR7 hVn (by decide) (by decide) (by decide)) ?_
            rintro _ M5 ⟨rfl, hF5, hR5⟩
            have hFa : FRR M M5 := FRR_t hF7 hF5
            have hRa := hR5
            have hVa := (pVal_V (t := t) (ix := 2) (lo := 1) (hi := 5) hVn (fun v _ _ => by omega)).1
            refine Gb_if_eq (tgt := 148) dX4_passItem_133 (by decide) (fun h133 => ?_) (fun h133 => ?_)
            · refine G_iconst (v := (nI 0)) dX4_passItem_148 (by decide) ?_
              refine G_iret dX4_passItem_149 rfl (by decide) ?_
              rw [pItem, if_neg (fun z => absurd z.2 (by omega)), if_neg (by rw [h50]; decide), if_neg (by rw [h83]; decide), if_pos h118, bnd, if_neg (by rw [h133]; decide)]
              exact ⟨congrArg Sum.inl (bI_f h133), hFa, hRa⟩
            · refine G_aload_n dX4_passItem_136 rfl rfl ?_
              refine G_aload_n dX4_passItem_137 rfl rfl ?_
              refine G_callVi (ν := uX4_passSemicolon) (As := [.inr 3]) dX4_passItem_138 nX4_54 kX4_passSemicolon rfl rfl rfl rfl rfl (Nat.le_of_ble_eq_true rfl) (c_semi (s := (pVal n t 2 1 5 (tkE n t s.1, s.2)).2) (TX_R hT hFa) hRa hVa) ?_
              rintro _ M6 ⟨rfl, hF6, hR6⟩
              refine Gb_if_eq (tgt := 148) dX4_passItem_141 (by decide) (fun h141 => ?_) (fun h141 => ?_)
              · refine G_iconst (v := (nI 0)) dX4_passItem_148 (by decide) ?_
                refine G_iret dX4_passItem_149 rfl (by decide) ?_
                rw [pItem, if_neg (fun z => absurd z.2 (by omega)), if_neg (by rw [h50]; decide), if_neg (by rw [h83]; decide), if_pos h118, bnd, if_pos h133]
                exact ⟨congrArg Sum.inl (bI_f h141), FRR_t hFa hF6, hR6⟩
              · refine G_iconst (v := (nI 1)) dX4_passItem_144 (by decide) ?_
                refine G_goto (tgt := 149) dX4_passItem_145 (by decide) ?_
                refine G_iret dX4_passItem_149 rfl (by decide) ?_
                rw [pItem, if_neg (fun z => absurd z.2 (by omega)), if_neg (by rw [h50]; decide), if_neg (by rw [h83]; decide), if_pos h118, bnd, if_pos h133]
                exact ⟨congrArg Sum.inl (bI_t h141), FRR_t hFa hF6, hR6⟩
        · refine G_aload_n dX4_passItem_86 rfl rfl ?_
          refine G_aload_n dX4_passItem_87 rfl rfl ?_
          refine G_bipush (v := (nI 8)) dX4_passItem_88 (by decide) ?_
          refine G_bipush (v := (nI 9)) dX4_passItem_90 (by decide) ?_
          refine G_callVi (ν := uX4_passOfColour) (As := [.inr 3, .inl (nI 8), .inl (nI 9)]) dX4_passItem_92 nX4_59 kX4_passOfColour rfl rfl rfl rfl rfl (Nat.le_of_ble_eq_true rfl) (c_passOf hT hR hV (by decide) (by decide)) ?_
          rintro _ M5 ⟨rfl, hF5, hR5⟩
          have hFa : FRR M M5 := hF5
          have hRa := hR5
          have hVa := (pOf_V (t := t) hV (Or.inr ⟨rfl, rfl⟩)).1
          refine Gb_if_eq (tgt := 110) dX4_passItem_95 (by decide) (fun h95 => ?_) (fun h95 => ?_)
          · refine G_iconst (v := (nI 0)) dX4_passItem_110 (by decide) ?_
            refine G_iret dX4_passItem_111 rfl (by decide) ?_
            rw [pItem, if_neg (fun z => absurd z.2 (by omega)), if_neg (by rw [h50]; decide), if_pos h83, bnd, if_neg (by rw [h95]; decide)]
            exact ⟨congrArg Sum.inl (bI_f h95), hFa, hRa⟩
          · refine G_aload_n dX4_passItem_98 rfl rfl ?_
            refine G_aload_n dX4_passItem_99 rfl rfl ?_
            refine G_callVi (ν := uX4_passSemicolon) (As := [.inr 3]) dX4_passItem_100 nX4_54 kX4_passSemicolon rfl rfl rfl rfl rfl (Nat.le_of_ble_eq_true rfl) (c_semi (s := (pOf n t 8 9 s).2) (TX_R hT hFa) hRa hVa) ?_
            rintro _ M6 ⟨rfl, hF6, hR6⟩
            refine Gb_if_eq (tgt := 110) dX4_passItem_103 (by decide) (fun h103 => ?_) (fun h103 => ?_)
            · refine G_iconst (v := (nI 0)) dX4_passItem_110 (by decide) ?_
              refine G_iret dX4_passItem_111 rfl (by decide) ?_
              rw [pItem, if_neg (fun z => absurd z.2 (by omega)), if_neg (by rw [h50]; decide), if_pos h83, bnd, if_pos h95]
              exact ⟨congrArg Sum.inl (bI_f h103), FRR_t hFa hF6, hR6⟩
            · refine G_iconst (v := (nI 1)) dX4_passItem_106 (by decide) ?_
              refine G_goto (tgt := 111) dX4_passItem_107 (by decide) ?_
              refine G_iret dX4_passItem_111 rfl (by decide) ?_
              rw [pItem, if_neg (fun z => absurd z.2 (by omega)), if_neg (by rw [h50]; decide), if_pos h83, bnd, if_pos h95]
              exact ⟨congrArg Sum.inl (bI_t h103), FRR_t hFa hF6, hR6⟩
      · refine G_aload_n dX4_passItem_53 rfl rfl ?_
        refine G_aload_n dX4_passItem_54 rfl rfl ?_
        refine G_iconst (v := (nI 4)) dX4_passItem_55 (by decide) ?_
        refine G_iconst (v := (nI 1)) dX4_passItem_56 (by decide) ?_
        refine G_callVi (ν := uX4_passOfColour) (As := [.inr 3, .inl (nI 4), .inl (nI 1)]) dX4_passItem_57 nX4_59 kX4_passOfColour rfl rfl rfl rfl rfl (Nat.le_of_ble_eq_true rfl) (c_passOf hT hR hV (by decide) (by decide)) ?_
        rintro _ M5 ⟨rfl, hF5, hR5⟩
        have hFa : FRR M M5 := hF5
        have hRa := hR5
        have hVa := (pOf_V (t := t) hV (Or.inl ⟨rfl, rfl⟩)).1
        refine Gb_if_eq (tgt := 75) dX4_passItem_60 (by decide) (fun h60 => ?_) (fun h60 => ?_)
        · refine G_iconst (v := (nI 0)) dX4_passItem_75 (by decide) ?_
          refine G_iret dX4_passItem_76 rfl (by decide) ?_
          rw [pItem, if_neg (fun z => absurd z.2 (by omega)), if_pos h50, bnd, if_neg (by rw [h60]; decide)]
          exact ⟨congrArg Sum.inl (bI_f h60), hFa, hRa⟩
        · refine G_aload_n dX4_passItem_63 rfl rfl ?_
          refine G_aload_n dX4_passItem_64 rfl rfl ?_
          refine G_callVi (ν := uX4_passSemicolon) (As := [.inr 3]) dX4_passItem_65 nX4_54 kX4_passSemicolon rfl rfl rfl rfl rfl (Nat.le_of_ble_eq_true rfl) (c_semi (s := (pOf n t 4 1 s).2) (TX_R hT hFa) hRa hVa) ?_
          rintro _ M6 ⟨rfl, hF6, hR6⟩
          refine Gb_if_eq (tgt := 75) dX4_passItem_68 (by decide) (fun h68 => ?_) (fun h68 => ?_)
          · refine G_iconst (v := (nI 0)) dX4_passItem_75 (by decide) ?_
            refine G_iret dX4_passItem_76 rfl (by decide) ?_
            rw [pItem, if_neg (fun z => absurd z.2 (by omega)), if_pos h50, bnd, if_pos h60]
            exact ⟨congrArg Sum.inl (bI_f h68), FRR_t hFa hF6, hR6⟩
          · refine G_iconst (v := (nI 1)) dX4_passItem_71 (by decide) ?_
            refine G_goto (tgt := 76) dX4_passItem_72 (by decide) ?_
            refine G_iret dX4_passItem_76 rfl (by decide) ?_
            rw [pItem, if_neg (fun z => absurd z.2 (by omega)), if_pos h50, bnd, if_pos h60]
            exact ⟨congrArg Sum.inl (bI_t h68), FRR_t hFa hF6, hR6⟩
    · refine G_aload_n dX4_passItem_18 rfl rfl ?_
      refine G_callVv (ν := uX7_toNextToken) (As := []) dX4_passItem_19 nX4_48 kX7_toNextToken rfl rfl rfl rfl rfl (Nat.le_of_ble_eq_true rfl) (c_nextR hT hR hV.1) ?_
      rintro _ M7 ⟨hF7, hR7⟩
      refine G_aload_n dX4_passItem_22 rfl rfl ?_
      refine G_aload_n dX4_passItem_23 rfl rfl ?_
      refine G_callVi (ν := uX4_passCells) (As := [.inr 3]) dX4_passItem_24 nX4_51 kX4_passCells rfl rfl rfl rfl rfl (Nat.le_of_ble_eq_true rfl) (c_cells (s := (tkE n t s.1, s.2)) (TX_R hT hF7) hR7 hVn h15) ?_
      rintro _ M5 ⟨rfl, hF5, hR5⟩
      have hFa : FRR M M5 := FRR_t hF7 hF5
      have hRa := hR5
      have hVa := (pCells_V (t := t) hVn h15).1
      refine Gb_if_eq (tgt := 42) dX4_passItem_27 (by decide) (fun h27 => ?_) (fun h27 => ?_)
      · refine G_iconst (v := (nI 0)) dX4_passItem_42 (by decide) ?_
        refine G_iret dX4_passItem_43 rfl (by decide) ?_
        rw [pItem, if_pos ⟨h6, h15⟩, bnd, if_neg (by rw [h27]; decide)]
        exact ⟨congrArg Sum.inl (bI_f h27), hFa, hRa⟩
      · refine G_aload_n dX4_passItem_30 rfl rfl ?_
        refine G_aload_n dX4_passItem_31 rfl rfl ?_
        refine G_callVi (ν := uX4_passSemicolon) (As := [.inr 3]) dX4_passItem_32 nX4_54 kX4_passSemicolon rfl rfl rfl rfl rfl (Nat.le_of_ble_eq_true rfl) (c_semi (s := (pCells n t (tkE n t s.1, s.2)).2) (TX_R hT hFa) hRa hVa) ?_
        rintro _ M6 ⟨rfl, hF6, hR6⟩
        refine Gb_if_eq (tgt := 42) dX4_passItem_35 (by decide) (fun h35 => ?_) (fun h35 => ?_)
        · refine G_iconst (v := (nI 0)) dX4_passItem_42 (by decide) ?_
          refine G_iret dX4_passItem_43 rfl (by decide) ?_
          rw [pItem, if_pos ⟨h6, h15⟩, bnd, if_pos h27]
          exact ⟨congrArg Sum.inl (bI_f h35), FRR_t hFa hF6, hR6⟩
        · refine G_iconst (v := (nI 1)) dX4_passItem_38 (by decide) ?_
          refine G_goto (tgt := 43) dX4_passItem_39 (by decide) ?_
          refine G_iret dX4_passItem_43 rfl (by decide) ?_
          rw [pItem, if_pos ⟨h6, h15⟩, bnd, if_pos h27]
          exact ⟨congrArg Sum.inl (bI_t h35), FRR_t hFa hF6, hR6⟩
theorem l_read {d n : Nat} {t : Nat → Nat} {M : Mem} (hT : TX n t M) : ∀ (k m : Nat) (s : RT) (M1 : Mem), 120 - m = k → m ≤ 120 → m ≤ s.1 → FRR M M1 → RDx n t s M1 → PV n s → pRd n t 120 0 (0, gS, 0) = pRd n t k m s → G l α D cA uX4_read none (d + 6) (fun r M1 => FRR M M1 ∧ (True) ∧ ∀ q, pRd n t 120 0 (0, gS, 0) = q → (r = .inl (if q.1 = false ∨ q.2.2.2.2 = 0 then -10 - nI (tkS n t q.2.2.1) else nI q.2.1)) ∧ hC q.2.2.2.1 (M1 7) ∧ PV n q.2.2) 18 [some (.inr 5), some (.inr 3), some (.inl (nI m))] [] M1 := by
  intro k
  induction k with
  | zero =>
    intro m s M1 hk hm hms hF1 hR hV he
    have hT1 := TX_R hT hF1
    have hn := hT.2.1
    have hsn := hV.1
    have hend : pRd n t 0 m s = (true, m, s) := rfl
    refine G_iload_n dX4_read_18 rfl rfl ?_
    refine G_bipush (v := (nI 120)) dX4_read_19 (by decide) ?_
    refine Gn_icmp_ge (tgt := 53) dX4_read_21 (by decide) (by omega) (by omega) (fun h21 => ?_) (fun h21 => ?_)
    · refine G_aload_n dX4_read_53 rfl rfl ?_
      refine G_getI (v := (nI (s.2.2))) dX4_read_54 fX4_21 rfl rfl hR.2.2 ?_
      have hr6 := hV.2.1
      refine Gn_if_ne (tgt := 70) dX4_read_57 (by decide) (by omega) (fun h57 => ?_) (fun h57 => ?_)
      · refine G_iload_n dX4_read_70 rfl rfl ?_
        refine G_iret dX4_read_71 rfl rfl ?_
        refine ⟨hF1, trivial, fun q hq => ?_⟩
        rw [he, hend] at hq
        subst hq
        exact ⟨by rw [if_neg (fun z => z.elim (fun y => by cases y) h57)], hR.2.1, hV⟩
      · refine G_bipush (v := ((-10))) dX4_read_60 (by decide) ?_
        refine G_aload_n dX4_read_62 rfl rfl ?_
        refine G_callVi (ν := uX7_tokenStart) (As := []) dX4_read_63 nX4_38 kX7_tokenStart rfl rfl rfl rfl rfl (Nat.le_of_ble_eq_true rfl) (c_ttokenStart (x := nI (tkS n t (s.1))) hR.1.1) ?_
        rintro _ M8 ⟨rfl, e9⟩
        subst M8
        refine G_isub (v := (-10 - nI (tkS n t (s.1)))) dX4_read_66 rfl ?_
        refine G_goto (tgt := 71) dX4_read_67 (by decide) ?_
        refine G_iret dX4_read_71 rfl rfl ?_
        refine ⟨hF1, trivial, fun q hq => ?_⟩
        rw [he, hend] at hq
        subst hq
        exact ⟨by rw [if_pos (Or.inr h57)], hR.2.1, hV⟩
    · omega
  | succ k ih =>
    intro m s M1 hk hm hms hF1 hR hV he
    have hT1 := TX_R hT hF1
    have hn := hT.2.1
    have hsn := hV.1
    refine G_iload_n dX4_read_18 rfl rfl ?_
    refine G_bipush (v := (nI 120)) dX4_read_19 (by decide) ?_
    refine Gn_icmp_ge (tgt := 53) dX4_read_21 (by decide) (by omega) (by omega) (fun h21 => ?_) (fun h21 => ?_)
    · omega
    · refine G_aload_n dX4_read_24 rfl rfl ?_
      refine G_callVi (ν := uX7_isAtEnd) (As := []) dX4_read_25 nX4_30 kX7_isAtEnd rfl rfl rfl rfl rfl (Nat.le_of_ble_eq_true rfl) (c_atEnd hR.1.2.2 kle) ?_
      rintro _ M8 ⟨rfl, e9⟩
      subst M8
      refine Gb_if_ne (tgt := 53) dX4_read_28 (by decide) (fun h28 => ?_) (fun h28 => ?_)
      · have hend : pRd n t (k + 1) m s = (true, m, s) := by rw [pRd, if_pos (of_decide_eq_true h28)]
        refine G_aload_n dX4_read_53 rfl rfl ?_
        refine G_getI (v := (nI (s.2.2))) dX4_read_54 fX4_21 rfl rfl hR.2.2 ?_
        have hr6 := hV.2.1
        refine Gn_if_ne (tgt := 70) dX4_read_57 (by decide) (by omega) (fun h57 => ?_) (fun h57 => ?_)
        · refine G_iload_n dX4_read_70 rfl rfl ?_
          refine G_iret dX4_read_71 rfl rfl ?_
          refine ⟨hF1, trivial, fun q hq => ?_⟩
          rw [he, hend] at hq
          subst hq
          exact ⟨by rw [if_neg (fun z => z.elim (fun y => by cases y) h57)], hR.2.1, hV⟩
        · refine G_bipush (v := ((-10))) dX4_read_60 (by decide) ?_
          refine G_aload_n dX4_read_62 rfl rfl ?_
          refine G_callVi (ν := uX7_tokenStart) (As := []) dX4_read_63 nX4_38 kX7_tokenStart rfl rfl rfl rfl rfl (Nat.le_of_ble_eq_true rfl) (c_ttokenStart (x := nI (tkS n t (s.1))) hR.1.1) ?_
          rintro _ M8 ⟨rfl, e9⟩
          subst M8
          refine G_isub (v := (-10 - nI (tkS n t (s.1)))) dX4_read_66 rfl ?_
          refine G_goto (tgt := 71) dX4_read_67 (by decide) ?_
          refine G_iret dX4_read_71 rfl rfl ?_
          refine ⟨hF1, trivial, fun q hq => ?_⟩
          rw [he, hend] at hq
          subst hq
          exact ⟨by rw [if_pos (Or.inr h57)], hR.2.1, hV⟩
      · refine G_aload_n dX4_read_31 rfl rfl ?_
        refine G_aload_n dX4_read_32 rfl rfl ?_
        refine G_callVi (ν := uX4_passItem) (As := [.inr 3]) dX4_read_33 nX4_34 kX4_passItem rfl rfl rfl rfl rfl (Nat.le_of_ble_eq_true rfl) (c_passItem hT1 hR hV) ?_
        rintro _ M7 ⟨rfl, hF7, hR7⟩
        have hV7 := pItem_V (t := t) hV
        refine Gb_if_ne (tgt := 47) dX4_read_36 (by decide) (fun h36 => ?_) (fun h36 => ?_)
        · refine G_iinc (v := (nI (m + 1))) (L2 := [some (.inr 5), some (.inr 3), some (.inl (nI (m + 1)))]) dX4_read_47 rfl (nI_1 _) rfl ?_
          refine G_goto (tgt := 18) dX4_read_50 (by decide) ?_
          refine ih (m + 1) (pItem n t s).2 M7 (by omega) (by omega) (by have := hV7.2 h36; omega) (FRR_t hF1 hF7) hR7 hV7.1 ?_
          rw [he, pRd, if_neg (of_decide_eq_false h28), if_pos h36]
        · refine G_bipush (v := ((-10))) dX4_read_39 (by decide) ?_
          refine G_aload_n dX4_read_41 rfl rfl ?_
          refine G_callVi (ν := uX7_tokenStart) (As := []) dX4_read_42 nX4_38 kX7_tokenStart rfl rfl rfl rfl rfl (Nat.le_of_ble_eq_true rfl) (c_ttokenStart (x := nI (tkS n t ((pItem n t s).2.1))) hR7.1.1) ?_
          rintro _ M8 ⟨rfl, e9⟩
          subst M8
          refine G_isub (v := (-10 - nI (tkS n t ((pItem n t s).2.1)))) dX4_read_45 rfl ?_
          refine G_iret dX4_read_46 rfl rfl ?_
          refine ⟨FRR_t hF1 hF7, trivial, fun q hq => ?_⟩
          rw [he, pRd, if_neg (of_decide_eq_false h28), if_neg (by rw [h36]; decide)] at hq
          subst hq
          exact ⟨by rw [if_pos (Or.inl rfl)], hR7.2.1, hV7.1⟩
theorem c_read {d n : Nat} {t : Nat → Nat} {M : Mem} (hT : TX n t M) : Call l α D cA uX4_read (d + 6) [.inr 5, .inr 3] M (fun r M1 => FRR M M1 ∧ (True) ∧ ∀ q, pRd n t 120 0 (0, gS, 0) = q → (r = .inl (if q.1 = false ∨ q.2.2.2.2 = 0 then -10 - nI (tkS n t q.2.2.1) else nI q.2.1)) ∧ hC q.2.2.2.1 (M1 7) ∧ PV n q.2.2) := by
  refine Call.of kX4_read.1 (Nat.le_of_ble_eq_true rfl) ?_
  refine G_aload_n dX4_read_0 rfl rfl ?_
  refine G_getR (j := 6) dX4_read_1 fX4_12 rfl rfl ?_
  refine G_callVv (ν := uX0_start) (As := []) dX4_read_4 nX4_18 kX0_start rfl rfl rfl rfl rfl (Nat.le_of_ble_eq_true rfl) (c_start (o := 6) (v := 7) rfl rfl) ?_
  rintro _ M8 ⟨f, e8, hf⟩
  subst e8
  refine G_aload_n dX4_read_7 rfl rfl ?_
  refine G_iconst (v := (nI 0)) dX4_read_8 (by decide) ?_
  refine G_put dX4_read_9 pX4_21 rfl rfl ?_
  refine G_aload_n dX4_read_12 rfl rfl ?_
  refine G_callVv (ν := uX7_toFirstToken) (As := []) dX4_read_13 nX4_25 kX7_toFirstToken rfl rfl rfl rfl rfl (Nat.le_of_ble_eq_true rfl) (c_firstTok (n := n) (t := t) (TX_3 hT (by simp [ms, mo]) (by simp [ms, mo]))) ?_
  rintro _ M7 e7
  subst M7
  refine G_iconst (v := (nI 0)) dX4_read_16 (by decide) ?_
  refine G_istore_n (L2 := [some (.inr 5), some (.inr 3), some (.inl (nI 0))]) dX4_read_17 rfl (Nat.le_of_ble_eq_true rfl) rfl ?_
  refine l_read hT 120 0 (0, gS, 0) _ rfl (by omega) (Nat.le_refl _) ⟨fun q a b c => by simp [ms, mo, a, b, c], by simp [ms, mo, upd]⟩ ⟨⟨by simp [ms, upd], by simp [ms, upd], by simp [ms, upd]⟩, ?_, by simp [ms, upd]⟩ ⟨Nat.zero_le _, PG_0⟩ rfl
  simp [ms, mo]
  exact hf
end P23
