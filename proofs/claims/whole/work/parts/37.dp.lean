/-! The order of sewing: the fewest changes of thread, and the smallest of the orders that have them (pure) -/
section P37
theorem bit_or {s f i : Nat} : (s ||| 2 ^ f).testBit i = (s.testBit i || decide (i = f)) := fb_bit_set s f i
theorem or_gt {s f : Nat} (h : s.testBit f = false) : s < s ||| 2 ^ f := by
  rcases Nat.lt_or_ge s (s ||| 2 ^ f) with z | z
  · exact z
  · have e : s ||| 2 ^ f = s := Nat.le_antisymm z Nat.left_le_or
    have k := bit_or (s := s) (f := f) (i := f)
    rw [e, h] at k
    simp at k
theorem or_lt {s f n : Nat} (hs : s < 2 ^ n) (hf : f < n) : s ||| 2 ^ f < 2 ^ n := Nat.or_lt_two_pow hs (Nat.pow_lt_pow_right (by decide) hf)
/-- field x must come before field f -/
def ahP (g : Nat → Nat) (f x : Nat) : Prop := g (8 + col g x) < g (8 + col g f) ∧ tchF (labF g) f x
noncomputable def ahM (g : Nat → Nat) (f : Nat) : Nat → Nat
  | 0 => 0
  | k + 1 => ahM g f k ||| (if dec (ahP g f k) = true then 2 ^ k else 0)
theorem ahM_bit {g : Nat → Nat} {f x : Nat} : ∀ k, (ahM g f k).testBit x = (decide (x < k) && dec (ahP g f x)) := by
  intro k
  induction k with
  | zero => simp [ahM]
  | succ k ih =>
    rw [ahM]
    by_cases z : dec (ahP g f k) = true
    · rw [if_pos z, bit_or, ih]
      by_cases e : x = k
      · subst e; simp [z]
      · have : decide (x < k + 1) = decide (x < k) := decide_eq_decide.mpr (by omega)
        simp [e, this]
    · rw [if_neg z, Nat.or_zero, ih]
      by_cases e : x = k
      · subst e; simp [Bool.eq_false_iff.mpr z]
      · have : decide (x < k + 1) = decide (x < k) := decide_eq_decide.mpr (by omega)
        rw [this]
noncomputable def ah (g : Nat → Nat) (f : Nat) : Nat := ahM g f (labN g)
theorem ah_bit {g : Nat → Nat} {f x : Nat} : (ah g f).testBit x = true ↔ x < labN g ∧ ahP g f x := by
  unfold ah
  rw [ahM_bit, Bool.and_eq_true, decide_eq_true_eq, dec_iff]
theorem ahM_lt {g : Nat → Nat} {f : Nat} : ∀ k, ahM g f k < 2 ^ k := by
  intro k
  induction k with
  | zero => exact Nat.one_pos
  | succ k ih =>
    rw [ahM]
    have h2 : (2 : Nat) ^ (k + 1) = 2 * 2 ^ k := by rw [Nat.pow_succ]; omega
    refine Nat.or_lt_two_pow (by omega) ?_
    split <;> omega
def mayc (g : Nat → Nat) (s f : Nat) : Prop := s.testBit f = false ∧ ∀ x, (ah g f).testBit x = true → s.testBit x = true
noncomputable def wfd (g : Nat → Nat) (T : Nat → Nat → Nat) (s last f : Nat) : Nat := T (s ||| 2 ^ f) (col g f) + (if last ≠ 0 ∧ last ≠ col g f then 1 else 0)
noncomputable def its (g : Nat → Nat) (T : Nat → Nat → Nat) (s last f : Nat) : Nat := if dec (mayc g s f) = true then wfd g T s last f else 1000
noncomputable def lst (g : Nat → Nat) (T : Nat → Nat → Nat) (s last : Nat) : Nat → Nat
  | 0 => if s = 2 ^ labN g - 1 then 0 else 1000
  | k + 1 => if its g T s last k < lst g T s last k then its g T s last k else lst g T s last k
def DP (g : Nat → Nat) (T : Nat → Nat → Nat) : Prop := ∀ s, s < 2 ^ labN g → ∀ last, last < 4 → T s last = lst g T s last (labN g)
theorem lst_cong {g : Nat → Nat} {T T' : Nat → Nat → Nat} {s last : Nat} (h : ∀ s', s < s' → ∀ c, T' s' c = T s' c) : ∀ k, lst g T' s last k = lst g T s last k := by
  have hi : ∀ f, its g T' s last f = its g T s last f := fun f => by
    unfold its
    by_cases z : mayc g s f
    · rw [dec_t z, if_pos rfl, if_pos rfl]
      unfold wfd
      rw [h _ (or_gt z.1)]
    · rw [dec_f z]
      rfl
  intro k
  induction k with
  | zero => rfl
  | succ k ih => rw [lst, lst, ih, hi]
theorem DP_ex (g : Nat → Nat) : ∃ T, DP g T := by
  have key : ∀ k, k ≤ 2 ^ labN g → ∃ T : Nat → Nat → Nat, ∀ s, 2 ^ labN g - k ≤ s → s < 2 ^ labN g → ∀ last, last < 4 → T s last = lst g T s last (labN g) := by
    intro k
    induction k with
    | zero => exact fun _ => ⟨fun _ _ => 0, fun s h1 h2 => by omega⟩
    | succ k ih =>
      intro hk
      obtain ⟨T, hT⟩ := ih (by omega)
      refine ⟨fun s l => if s = 2 ^ labN g - (k + 1) then lst g T s l (labN g) else T s l, fun s h1 h2 last hl => ?_⟩
      rw [lst_cong (T := T) (fun s' hs c => if_neg (by omega))]
      dsimp only
      by_cases e : s = 2 ^ labN g - (k + 1)
      · rw [if_pos e]
      · rw [if_neg e]
        exact hT s (by omega) h2 last hl
  obtain ⟨T, hT⟩ := key _ (Nat.le_refl _)
  exact ⟨T, fun s hs last hl => hT s (by omega) hs last hl⟩
theorem lst_s {g : Nat → Nat} {T : Nat → Nat → Nat} {s last k : Nat} : lst g T s last (k + 1) = if its g T s last k < lst g T s last k then its g T s last k else lst g T s last k := rfl
theorem lst_le {g : Nat → Nat} {T : Nat → Nat → Nat} {s last f : Nat} : ∀ k, f < k → lst g T s last k ≤ its g T s last f := by
  intro k
  induction k with
  | zero => intro h; omega
  | succ k ih =>
    intro h
    rw [lst_s]
    rcases (show f < k ∨ f = k by omega) with z | z
    · have := ih z
      split <;> omega
    · subst z
      split <;> omega
theorem lst_0 {g : Nat → Nat} {T : Nat → Nat → Nat} {s last : Nat} : ∀ k, lst g T s last k ≤ lst g T s last 0 := by
  intro k
  induction k with
  | zero => exact Nat.le_refl _
  | succ k ih =>
    rw [lst_s]
    split <;> omega
theorem lst_or {g : Nat → Nat} {T : Nat → Nat → Nat} {s last : Nat} : ∀ k, lst g T s last k = lst g T s last 0 ∨ ∃ f, f < k ∧ lst g T s last k = its g T s last f := by
  intro k
  induction k with
  | zero => exact Or.inl rfl
  | succ k ih =>
    rw [lst_s]
    split
    · exact Or.inr ⟨k, by omega, rfl⟩
    · rcases ih with h | ⟨f, hf, h⟩
      · exact Or.inl h
      · exact Or.inr ⟨f, by omega, h⟩
/-- a field of colour c is left -/
def rmn (g : Nat → Nat) (s c : Nat) : Prop := ∃ f, f < labN g ∧ s.testBit f = false ∧ col g f = c
noncomputable def RC (g : Nat → Nat) (s x : Nat) : Nat := fb_ct (fun c => dec (rmn g s (c + 1) ∧ c + 1 ≠ x)) 3
noncomputable def lbd (g : Nat → Nat) (s last : Nat) : Nat := if last = 0 then RC g s 0 - 1 else RC g s last
theorem RC_3 {g : Nat → Nat} {s x : Nat} : RC g s x ≤ 3 := fb_ct_le _ _
theorem RC_rem {g : Nat → Nat} (hk : gok g) {s c : Nat} (h : rmn g s c) : RC g s 0 = RC g s c + 1 := by
  obtain ⟨f, hf, h1, h2⟩ := id h
  have hc := col_in hk hf
  refine ct_flip (i := c - 1) (by omega) (dec_f (fun z => z.2 (by omega))) (dec_t ⟨by rw [show c - 1 + 1 = c by omega]; exact h, by omega⟩) (fun k hk => dec_eq ⟨fun z => ⟨z.1, by omega⟩, fun z => ⟨z.1, by omega⟩⟩)
theorem RC_no {g : Nat → Nat} {s c : Nat} (h : ¬ rmn g s c) : RC g s c = RC g s 0 :=
  fb_ct_cong (fun k _ => dec_eq ⟨fun z => ⟨z.1, by omega⟩, fun z => ⟨z.1, fun e => h (by rw [← e]; exact z.1)⟩⟩)
theorem rmn_set {g : Nat → Nat} {s f c : Nat} (h : c ≠ col g f) : rmn g (s ||| 2 ^ f) c ↔ rmn g s c := by
  constructor
  · rintro ⟨x, h1, h2, h3⟩
    rw [bit_or, Bool.or_eq_false_iff] at h2
    exact ⟨x, h1, h2.1, h3⟩
  · rintro ⟨x, h1, h2, h3⟩
    refine ⟨x, h1, ?_, h3⟩
    rw [bit_or, h2, Bool.false_or, decide_eq_false (fun e => h (by rw [← h3, e]))]
theorem RC_set {g : Nat → Nat} {s f : Nat} : RC g (s ||| 2 ^ f) (col g f) = RC g s (col g f) :=
  fb_ct_cong (fun k _ => dec_eq ⟨fun z => ⟨(rmn_set z.2).mp z.1, z.2⟩, fun z => ⟨(rmn_set z.2).mpr z.1, z.2⟩⟩)
theorem full_bit {g : Nat → Nat} {x : Nat} (hx : x < labN g) : (2 ^ labN g - 1).testBit x = true := by
  rw [Nat.testBit_two_pow_sub_one]
  exact decide_eq_true hx
theorem RC_full {g : Nat → Nat} {x : Nat} : RC g (2 ^ labN g - 1) x = 0 := fb_ct_zero.mpr (fun k _ => dec_f (fun ⟨⟨f, h1, h2, _⟩, _⟩ => by rw [full_bit h1] at h2; cases h2))
theorem lbd_full {g : Nat → Nat} {last : Nat} : lbd g (2 ^ labN g - 1) last = 0 := by
  unfold lbd
  rw [RC_full, RC_full]
  split <;> rfl
theorem lbd_3 {g : Nat → Nat} {s last : Nat} : lbd g s last ≤ 3 := by
  unfold lbd
  have a := RC_3 (g := g) (s := s) (x := 0)
  have b := RC_3 (g := g) (s := s) (x := last)
  split <;> omega
/-- the price of a field, by the bound -/
theorem wfd_lb {g : Nat → Nat} (hk : gok g) {s last f : Nat} (hf : f < labN g) (hb : s.testBit f = false) : lbd g (s ||| 2 ^ f) (col g f) = RC g s 0 - 1 ∧ lbd g s last ≤ lbd g (s ||| 2 ^ f) (col g f) + (if last ≠ 0 ∧ last ≠ col g f then 1 else 0) ∧ 1 ≤ RC g s 0 := by
  have hr : rmn g s (col g f) := ⟨f, hf, hb, rfl⟩
  have h1 := RC_rem hk hr
  have hc := col_in hk hf
  have e : lbd g (s ||| 2 ^ f) (col g f) = RC g s 0 - 1 := by
    unfold lbd
    rw [if_neg (by omega), RC_set]
    omega
  refine ⟨e, ?_, by omega⟩
  rw [e]
  unfold lbd
  by_cases z : last = 0
  · rw [if_pos z]; omega
  · rw [if_neg z]
    by_cases y : last = col g f
    · rw [y]; omega
    · rw [if_pos ⟨z, y⟩]
      by_cases x : rmn g s last
      · have := RC_rem hk x; omega
      · rw [RC_no x]; omega
theorem DP_lb {g : Nat → Nat} (hk : gok g) {T : Nat → Nat → Nat} (hT : DP g T) : ∀ (k s last : Nat), 2 ^ labN g - s = k → s < 2 ^ labN g → last < 4 → lbd g s last ≤ T s last := by
  intro k
  induction k using Nat.strongRecOn with
  | _ k ih => ?_
  intro s last hkk hs hl
  rw [hT s hs last hl]
  have h3 := lbd_3 (g := g) (s := s) (last := last)
  rcases lst_or (g := g) (T := T) (s := s) (last := last) (labN g) with h | ⟨f, hf, h⟩
  · rw [h, lst]
    split
    · next e => rw [e, lbd_full]; omega
    · omega
  · rw [h]
    unfold its
    by_cases z : mayc g s f
    · rw [dec_t z, if_pos rfl]
      unfold wfd
      have a := wfd_lb hk (last := last) hf z.1
      have b := or_gt z.1
      have c := or_lt hs hf
      have d := ih (2 ^ labN g - (s ||| 2 ^ f)) (by omega) (s ||| 2 ^ f) (col g f) rfl c (by have := col_in hk hf; omega)
      omega
    · rw [dec_f z, if_neg (by decide)]
      omega
/-- the colours but the last one are whole or absent, the last one's fields may come -/
def okS (g : Nat → Nat) (s last : Nat) : Prop := (∀ f f', f < labN g → f' < labN g → col g f = col g f' → col g f ≠ last → s.testBit f = s.testBit f') ∧ ∀ f, f < labN g → col g f = last → s.testBit f = false → mayc g s f
theorem DP_le {g : Nat → Nat} {T : Nat → Nat → Nat} (hT : DP g T) {s last f : Nat} (hs : s < 2 ^ labN g) (hl : last < 4) (hf : f < labN g) (hm : mayc g s f) : T s last ≤ wfd g T s last f := by
  rw [hT s hs last hl]
  refine Nat.le_trans (lst_le _ hf) ?_
  unfold its
  rw [dec_t hm, if_pos rfl]
  exact Nat.le_refl _
theorem minf {g : Nat → Nat} {s : Nat} : ∀ (m f : Nat), f < labN g → s.testBit f = false → g (8 + col g f) ≤ m → ∃ f', f' < labN g ∧ s.testBit f' = false ∧ ∀ x, x < labN g → s.testBit x = false → g (8 + col g f') ≤ g (8 + col g x) := by
  intro m
  induction m with
  | zero => intro f hf hb h; exact ⟨f, hf, hb, fun x _ _ => by omega⟩
  | succ m ih =>
    intro f hf hb h
    by_cases z : ∃ x, x < labN g ∧ s.testBit x = false ∧ g (8 + col g x) < g (8 + col g f)
    · obtain ⟨x, h1, h2, h3⟩ := z
      exact ih x h1 h2 (by omega)
    · exact ⟨f, hf, hb, fun x h1 h2 => Nat.le_of_not_lt (fun q => z ⟨x, h1, h2, q⟩)⟩
/-- a colour that does not wait: its fields may come -/
theorem okS_new {g : Nat → Nat} {s last f : Nat} (h : okS g s last) (hl : ∀ x, x < labN g → col g x = last → s.testBit x = true) (hw : ∀ f', f' < labN g → col g f' = col g f → s.testBit f' = false → mayc g s f') : okS g (s ||| 2 ^ f) (col g f) := by
  have hu : ∀ a b, a < labN g → b < labN g → col g a = col g b → s.testBit a = s.testBit b := fun a b ha hb e => by
    by_cases z : col g a = last
    · rw [hl a ha z, hl b hb (by rw [← e]; exact z)]
    · exact h.1 a b ha hb e z
  refine ⟨fun a b ha hb e hne => ?_, fun a ha e hb => ?_⟩
  · rw [bit_or, bit_or, hu a b ha hb e, decide_eq_false (fun q => hne (by rw [q])), decide_eq_false (fun q => hne (by rw [e, q]))]
  · rw [bit_or, Bool.or_eq_false_iff] at hb
    have := hw a ha e hb.1
    exact ⟨by rw [bit_or, hb.1, hb.2]; rfl, fun x hx => by rw [bit_or, this.2 x hx]; rfl⟩
theorem okS_same {g : Nat → Nat} {s last f : Nat} (h : okS g s last) (hf : col g f = last) : okS g (s ||| 2 ^ f) (col g f) := by
  subst hf
  refine ⟨fun a b ha hb e hne => ?_, fun a ha e hb => ?_⟩
  · rw [bit_or, bit_or, h.1 a b ha hb e hne, decide_eq_false (fun q => hne (by rw [q])), decide_eq_false (fun q => hne (by rw [e, q]))]
  · rw [bit_or, Bool.or_eq_false_iff] at hb
    have := h.2 a ha e hb.1
    exact ⟨by rw [bit_or, hb.1, hb.2]; rfl, fun x hx => by rw [bit_or, this.2 x hx]; rfl⟩
theorem DP_ok {g : Nat → Nat} (hk : gok g) {T : Nat → Nat → Nat} (hT : DP g T) : ∀ (k s last : Nat), 2 ^ labN g - s = k → s < 2 ^ labN g → last < 4 → okS g s last → T s last = lbd g s last := by
  intro k
  induction k using Nat.strongRecOn with
  | _ k ih => ?_
  intro s last hkk hs hl ho
  refine Nat.le_antisymm ?_ (DP_lb hk hT _ s last rfl hs hl)
  have step : ∀ f, f < labN g → mayc g s f → okS g (s ||| 2 ^ f) (col g f) → T s last ≤ RC g s 0 - 1 + (if last ≠ 0 ∧ last ≠ col g f then 1 else 0) := fun f hf hm ho2 => by
    have a := DP_le hT hs hl hf hm
    unfold wfd at a
    rw [ih (2 ^ labN g - (s ||| 2 ^ f)) (by have := or_gt hm.1; omega) (s ||| 2 ^ f) (col g f) rfl (or_lt hs hf) (by have := col_in hk hf; omega) ho2, (wfd_lb hk (last := last) hf hm.1).1] at a
    exact a
  by_cases hall : ∀ x, x < labN g → s.testBit x = true
  · have e : s = 2 ^ labN g - 1 := by
      apply Nat.eq_of_testBit_eq
      intro i
      rw [Nat.testBit_two_pow_sub_one]
      by_cases z : i < labN g
      · rw [hall i z, decide_eq_true z]
      · rw [decide_eq_false z]
        exact Nat.testBit_lt_two_pow (Nat.lt_of_lt_of_le hs (Nat.pow_le_pow_right (by decide) (by omega)))
    rw [hT s hs last hl]
    refine Nat.le_trans (lst_0 _) ?_
    rw [lst, if_pos e]
    exact Nat.zero_le _
  · obtain ⟨f, hf⟩ := Classical.not_forall.mp hall
    obtain ⟨hf, hb⟩ := Classical.not_imp.mp hf
    have hb : s.testBit f = false := Bool.eq_false_iff.mpr hb
    by_cases hr : rmn g s last
    · obtain ⟨x, h1, h2, h3⟩ := id hr
      have hm := ho.2 x h1 h3 h2
      have hc := col_in hk h1
      have := step x h1 hm (okS_same ho h3)
      rw [if_neg (fun z => z.2 h3.symm)] at this
      unfold lbd
      rw [if_neg (by omega)]
      have := RC_rem hk hr
      omega
    · obtain ⟨x, h1, h2, h3⟩ := minf _ f hf hb (Nat.le_refl _)
      have hlast : ∀ y, y < labN g → col g y = last → s.testBit y = true := fun y hy e => by
        cases hz : s.testBit y with
        | true => rfl
        | false => exact absurd ⟨y, hy, hz, e⟩ hr
      have hw : ∀ f', f' < labN g → col g f' = col g x → s.testBit f' = false → mayc g s f' := fun f' hf' e hb' => ⟨hb', fun y hy => by
        have hy := ah_bit.mp hy
        cases hz : s.testBit y with
        | true => rfl
        | false =>
          have a := h3 y hy.1 hz
          have b := hy.2.1
          rw [e] at b
          omega⟩
      have := step x h1 (hw x h1 rfl h2) (okS_new ho hlast hw)
      unfold lbd
      by_cases z : last = 0
      · rw [if_pos z]
        rw [if_neg (fun q => q.1 z)] at this
        omega
      · rw [if_neg z, RC_no hr]
        have hne : last ≠ col g x := fun e => by rw [hlast x h1 e.symm] at h2; cases h2
        rw [if_pos ⟨z, hne⟩] at this
        have := (wfd_lb hk (last := last) h1 h2).2.2
        omega
/-- where the bound is reached with a colour begun, that colour does not wait -/
theorem DP_wait {g : Nat → Nat} (hk : gok g) {T : Nat → Nat → Nat} (hT : DP g T) : ∀ (k s c : Nat), 2 ^ labN g - s = k → s < 2 ^ labN g → c < 4 → c ≠ 0 → T s c = lbd g s c → ∀ f, f < labN g → col g f = c → s.testBit f = false → ∀ x, (ah g f).testBit x = true → s.testBit x = true := by
  intro k
  induction k using Nat.strongRecOn with
  | _ k ih => ?_
  intro s c hkk hs hc hc0 hE f hf hcf hb x hx
  have hr : rmn g s c := ⟨f, hf, hb, hcf⟩
  have hR := RC_rem hk hr
  have h3 := lbd_3 (g := g) (s := s) (last := c)
  have hl : lbd g s c = RC g s c := by unfold lbd; rw [if_neg hc0]
  have hax := ah_bit.mp hx
  have hxc : col g x ≠ c := fun e => by have := hax.2.1; rw [e, hcf] at this; omega
  rw [hT s hs c hc] at hE
  rcases lst_or (g := g) (T := T) (s := s) (last := c) (labN g) with h | ⟨y, hy, h⟩
  · rw [h, lst] at hE
    split at hE
    · next e => rw [e, full_bit hf] at hb; cases hb
    · omega
  · rw [h] at hE
    unfold its at hE
    by_cases z : mayc g s y
    · rw [dec_t z, if_pos rfl] at hE
      unfold wfd at hE
      have a := wfd_lb hk (last := c) hy z.1
      have b := or_gt z.1
      have d := or_lt hs hy
      have hcy := col_in hk hy
      have lb := DP_lb hk hT _ (s ||| 2 ^ y) (col g y) rfl d (by omega)
      by_cases e : c = col g y
      · rw [if_neg (fun q => q.2 e)] at hE
        by_cases u : f = y
        · subst u
          exact z.2 x hx
        · have k2 := ih (2 ^ labN g - (s ||| 2 ^ y)) (by omega) (s ||| 2 ^ y) (col g y) rfl d (by omega) (by omega) (by omega) f hf (by rw [hcf, e]) (by rw [bit_or, hb, decide_eq_false u]; rfl) x hx
          rw [bit_or, decide_eq_false (fun q => hxc (by rw [q, e])), Bool.or_false] at k2
          exact k2
      · rw [if_pos ⟨hc0, e⟩] at hE
        omega
    · rw [dec_f z, if_neg (by decide)] at hE
      omega
end P37
