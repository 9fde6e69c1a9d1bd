/-! The order of sewing: the class's order is the smallest of the cheapest ones (pure) -/
section P38
noncomputable def dnS (g : Nat → Nat) (s c : Nat) : Bool := dec (∀ f, f < labN g → col g f = c → s.testBit f = true)
noncomputable def gst (g : Nat → Nat) (s last : Nat) : Option Nat := match fnd (fun f => !s.testBit f && decide (col g f = last)) (labN g) with
  | some f => some f
  | none => nxt g (dnS g s)
theorem gst_own {g : Nat → Nat} {s last f : Nat} (h : fnd (fun f => !s.testBit f && decide (col g f = last)) (labN g) = some f) : gst g s last = some f := by
  unfold gst
  rw [h]
theorem gst_new {g : Nat → Nat} {s last : Nat} (h : ∀ f, f < labN g → col g f = last → s.testBit f = true) : gst g s last = nxt g (dnS g s) := by
  unfold gst
  rw [fnd_no (fun f hf q => by
    rw [Bool.and_eq_true, decide_eq_true_eq] at q
    rw [h f hf q.2] at q
    exact absurd q.1 (by decide))]
theorem nxt_cong {g : Nat → Nat} {dn dn' : Nat → Bool} (h : ∀ x, x < labN g → dn (col g x) = dn' (col g x)) : nxt g dn = nxt g dn' := by
  have hm : ∀ c, mw g dn c ↔ mw g dn' c := fun c => by
    have key : ∀ o, 1 ≤ o → tchd g o c → dn o = dn' o := fun o ho ht => by
      obtain ⟨p, hp, hpo, -⟩ := ht
      obtain ⟨x, hx, -, hxc⟩ := fld_of (g := g) hp (by omega)
      have := h x hx
      rw [hxc, hpo] at this
      exact this
    constructor
    · rintro ⟨o, a, b, c1, e, f⟩
      exact ⟨o, a, b, by rw [← key o a f]; exact c1, e, f⟩
    · rintro ⟨o, a, b, c1, e, f⟩
      exact ⟨o, a, b, by rw [key o a f]; exact c1, e, f⟩
  unfold nxt
  have : ∀ n, n ≤ labN g → fnd (fun f => !dn (col g f) && !dec (mw g dn (col g f))) n = fnd (fun f => !dn' (col g f) && !dec (mw g dn' (col g f))) n := by
    intro n
    induction n with
    | zero => intro _; rfl
    | succ n ih =>
      intro hn
      rw [fnd, fnd, ih (by omega), h n (by omega), dec_eq (hm _)]
  exact this _ (Nat.le_refl _)
/-- touching fields of lower rank, by colours -/
theorem tch_col {g : Nat → Nat} {f x : Nat} (hx : x < labN g) (h : tchF (labF g) f x) : tchd g (col g x) (col g f) := by
  obtain ⟨p, hp, h1, hne, s, hs, q, h2, h3⟩ := h
  have hq := nbr_lt hp h2
  have c1 : g (12 + p) = col g f := by
    obtain ⟨-, hf⟩ := labF_g h1
    exact conn_col ((((labF_inv g).2.2.1 f hf).2.2.1 p).mp h1)
  have c2 : g (12 + q) = col g x := conn_col ((((labF_inv g).2.2.1 x hx).2.2.1 q).mp h3)
  refine ⟨q, hq, c2, 3 - s, by omega, ?_⟩
  rw [nbr_back hp s hs h2]
  exact c1
theorem col_tch {g : Nat → Nat} {o c : Nat} (ho : 1 ≤ o) (hc : 1 ≤ c) (hne : o ≠ c) (h : tchd g o c) : ∃ x f, x < labN g ∧ f < labN g ∧ col g x = o ∧ col g f = c ∧ tchF (labF g) f x := by
  obtain ⟨p, hp, hpo, s, hs, hsc⟩ := h
  obtain ⟨x, hx, hxl, hxc⟩ := fld_of (g := g) hp (by omega)
  cases hq : nbr p s with
  | none => rw [hq] at hsc; have : colr g none = 0 := rfl; omega
  | some q =>
    rw [hq] at hsc
    have hsc : g (12 + q) = c := hsc
    have hq48 := nbr_lt hp hq
    obtain ⟨f, hf, hfl, hfc⟩ := fld_of (g := g) hq48 (by omega)
    refine ⟨x, f, hx, hf, by omega, by omega, q, hq48, hfl, fun e => ?_, 3 - s, by omega, p, nbr_back hp s hs hq, hxl⟩
    rw [e] at hxc
    omega
def IV (g : Nat → Nat) (s last : Nat) : Prop := s < 2 ^ labN g ∧ last < 4 ∧ okS g s last
theorem IV_0 {g : Nat → Nat} (hk : gok g) : IV g 0 0 := ⟨Nat.two_pow_pos _, by decide, fun f f' _ _ _ _ => by rw [Nat.zero_testBit, Nat.zero_testBit], fun f hf e => by have := col_in hk hf; omega⟩
theorem lbd_eq {g : Nat → Nat} (hk : gok g) {s last f : Nat} (hf : f < labN g) (hb : s.testBit f = false) (hl : ∀ x, x < labN g → col g x = last → s.testBit x = true) : lbd g s last = RC g s 0 - 1 + (if last ≠ 0 ∧ last ≠ col g f then 1 else 0) := by
  have h1 := (wfd_lb hk (last := last) hf hb).2.2
  have hne : last ≠ col g f := fun e => by rw [hl f hf e.symm] at hb; cases hb
  unfold lbd
  by_cases z : last = 0
  · rw [if_pos z, if_neg (fun q => q.1 z)]; omega
  · rw [if_neg z, if_pos ⟨z, hne⟩, RC_no (fun ⟨x, a, b, e⟩ => by rw [hl x a e] at b; cases b)]
    omega
/-- the reference's choice at a state is the class's -/
theorem greedy {g : Nat → Nat} (hk : gok g) {T : Nat → Nat → Nat} (hT : DP g T) {s last f : Nat} (hI : IV g s last) (hg : gst g s last = some f) : f < labN g ∧ mayc g s f ∧ wfd g T s last f = T s last ∧ (∀ j, j < f → ¬ (mayc g s j ∧ wfd g T s last j = T s last)) ∧ IV g (s ||| 2 ^ f) (col g f) := by
  obtain ⟨hs, hl, ho⟩ := hI
  have hTs := DP_ok hk hT _ s last rfl hs hl ho
  cases hq : fnd (fun f => !s.testBit f && decide (col g f = last)) (labN g) with
  | some y =>
    rw [gst_own hq] at hg
    cases hg
    obtain ⟨hf, hp⟩ := fnd_some hq
    rw [Bool.and_eq_true, decide_eq_true_eq] at hp
    have hb : s.testBit f = false := by
      have := hp.1
      cases hz : s.testBit f with
      | false => rfl
      | true => rw [hz] at this; exact absurd this (by decide)
    have hc := col_in hk hf
    have hm := ho.2 f hf hp.2 hb
    have ho2 := okS_same ho hp.2
    have hlt := or_lt hs hf
    have e1 := DP_ok hk hT _ (s ||| 2 ^ f) (col g f) rfl hlt (by omega) ho2
    have hr : rmn g s last := ⟨f, hf, hb, hp.2⟩
    have hR := RC_rem hk hr
    have hlb : lbd g s last = RC g s last := by unfold lbd; rw [if_neg (by omega)]
    refine ⟨hf, hm, ?_, fun j hj hh => ?_, hlt, by omega, ho2⟩
    · unfold wfd
      rw [e1, (wfd_lb hk (last := last) hf hb).1, if_neg (fun z => z.2 hp.2.symm), hTs, hlb]
      omega
    · have hjn : j < labN g := by omega
      have hcj := col_in hk hjn
      have := fnd_lt hq j hj
      have hne : last ≠ col g j := fun e => this (by rw [hh.1.1, decide_eq_true e.symm]; rfl)
      have a := DP_lb hk hT _ (s ||| 2 ^ j) (col g j) rfl (or_lt hs hjn) (by omega)
      rw [(wfd_lb hk (last := last) hjn hh.1.1).1] at a
      have b := hh.2
      unfold wfd at b
      rw [if_pos ⟨by omega, hne⟩, hTs, hlb] at b
      omega
  | none =>
    have hno : ∀ x, x < labN g → col g x = last → s.testBit x = true := fun x hx e => by
      have := fnd_none hq x hx
      cases hz : s.testBit x with
      | true => rfl
      | false => exact absurd (by rw [hz, decide_eq_true e]; rfl) this
    rw [gst_new hno] at hg
    obtain ⟨hf, hd, hw⟩ := nxt_in hg
    have hu : ∀ a b, a < labN g → b < labN g → col g a = col g b → s.testBit a = s.testBit b := fun a b ha hb e => by
      by_cases z : col g a = last
      · rw [hno a ha z, hno b hb (by rw [← e]; exact z)]
      · exact ho.1 a b ha hb e z
    have hdn : ∀ x, x < labN g → dnS g s (col g x) = s.testBit x := fun x hx => by
      unfold dnS
      cases hz : s.testBit x with
      | true => exact dec_t (fun y hy e => by rw [hu y x hy hx e]; exact hz)
      | false => exact dec_f (fun q => by rw [q x hx rfl] at hz; cases hz)
    have hb : s.testBit f = false := by rw [← hdn f hf]; exact hd
    have hc := col_in hk hf
    have hnw : ∀ c f', f' < labN g → col g f' = c → s.testBit f' = false → ¬ mw g (dnS g s) c → mayc g s f' := fun c f' hf' e hb' hw => ⟨hb', fun x hx => by
      have hx := ah_bit.mp hx
      have hcx := col_in hk hx.1
      rw [← hdn x hx.1]
      cases hz : dnS g s (col g x) with
      | true => rfl
      | false => exact absurd ⟨col g x, hcx.1, hcx.2.1, hz, by rw [← e]; exact hx.2.1, by rw [← e]; exact tch_col hx.1 hx.2.2⟩ hw⟩
    have hm := hnw _ f hf rfl hb hw
    have ho2 := okS_new ho hno (fun f' hf' e hb' => hnw _ f' hf' e hb' hw)
    have hlt := or_lt hs hf
    have e1 := DP_ok hk hT _ (s ||| 2 ^ f) (col g f) rfl hlt (by omega) ho2
    refine ⟨hf, hm, ?_, fun j hj hh => ?_, hlt, by omega, ho2⟩
    · unfold wfd
      rw [e1, (wfd_lb hk (last := last) hf hb).1, hTs, lbd_eq hk hf hb hno]
    · have hjn : j < labN g := by omega
      have hcj := col_in hk hjn
      have hbj := hh.1.1
      have b := hh.2
      unfold wfd at b
      rw [hTs, lbd_eq hk hjn hbj hno] at b
      have b : T (s ||| 2 ^ j) (col g j) = RC g s 0 - 1 := by omega
      have hnj : ¬ mw g (dnS g s) (col g j) := by
        rintro ⟨o, o1, o3, hdo, hlt2, ht⟩
        obtain ⟨x, y, hx, hy, hxc, hyc, hty⟩ := col_tch o1 hcj.1 (fun e => by rw [e] at hlt2; omega) ht
        have hxb : s.testBit x = false := by rw [← hdn x hx, hxc]; exact hdo
        have hyb : s.testBit y = false := by rw [hu y j hy hjn hyc]; exact hbj
        have hah : (ah g y).testBit x = true := ah_bit.mpr ⟨hx, by rw [hxc, hyc]; exact hlt2, hty⟩
        have hxj : x ≠ j := fun e => by rw [e] at hxc; rw [hxc] at hlt2; omega
        by_cases e : y = j
        · subst e
          rw [hh.1.2 x hah] at hxb
          cases hxb
        · have k := DP_wait hk hT _ (s ||| 2 ^ j) (col g j) rfl (or_lt hs hjn) (by omega) (by omega) (by rw [b, (wfd_lb hk (last := last) hjn hbj).1]) y hy hyc (by rw [bit_or, hyb, decide_eq_false e]; rfl) x hah
          rw [bit_or, hxb, decide_eq_false hxj] at k
          cases k
      refine absurd ?_ (fnd_lt hg j hj)
      show (!dnS g s (col g j) && !dec (mw g (dnS g s) (col g j))) = true
      rw [hdn j hjn, hbj, dec_f hnj]
      rfl
/-- the states of the path -/
noncomputable def pth (g : Nat → Nat) : Nat → Nat × Nat
  | 0 => (0, 0)
  | k + 1 => match gst g (pth g k).1 (pth g k).2 with
    | some f => ((pth g k).1 ||| 2 ^ f, col g f)
    | none => pth g k
theorem pth_s {g : Nat → Nat} {k f : Nat} (h : gst g (pth g k).1 (pth g k).2 = some f) : pth g (k + 1) = ((pth g k).1 ||| 2 ^ f, col g f) := by
  rw [pth, h]
theorem pth_IV {g : Nat → Nat} (hk : gok g) : ∀ k, IV g (pth g k).1 (pth g k).2 := by
  obtain ⟨T, hT⟩ := DP_ex g
  intro k
  induction k with
  | zero => exact IV_0 hk
  | succ k ih =>
    cases h : gst g (pth g k).1 (pth g k).2 with
    | none => rw [pth, h]; exact ih
    | some f => rw [pth_s h]; exact (greedy hk hT ih h).2.2.2.2
/-- the class's order, up to a step, is the path -/
def PA (g : Nat → Nat) (i : Nat) : Prop := (∀ k, k < (ordS g i).1 → gst g (pth g k).1 (pth g k).2 = some ((ordS g i).2.1 k)) ∧ (∀ x, x < labN g → (pth g (ordS g i).1).1.testBit x = (ordS g i).2.2.1 (col g x)) ∧ ∀ x, x < labN g → col g x = (pth g (ordS g i).1).2 → (pth g (ordS g i).1).1.testBit x = true
theorem PA_all {g : Nat → Nat} (hk : gok g) : ∀ i, PA g i := by
  intro i
  induction i with
  | zero => exact ⟨fun k hk => absurd hk (Nat.not_lt_zero _), fun x _ => Nat.zero_testBit x, fun x hx e => by have := col_in hk hx; have e : col g x = 0 := e; omega⟩
  | succ i ih =>
    cases hn : nxt g (ordS g i).2.2.1 with
    | none => unfold PA; rw [ordS_none hn]; exact ih
    | some f0 =>
      obtain ⟨hf0, hd0, hw0⟩ := nxt_in hn
      obtain ⟨a1, a2, a3⟩ := ih
      have hc0 := col_in hk hf0
      have key : ∀ j, j ≤ labN g → ∀ t, addL (col g) (col g f0) j ((ordS g i).1, (ordS g i).2.1) = t → (ordS g i).1 ≤ t.1 ∧ (∀ k, k < t.1 → gst g (pth g k).1 (pth g k).2 = some (t.2 k)) ∧ (∀ x, x < labN g → (pth g t.1).1.testBit x = ((ordS g i).2.2.1 (col g x) || (decide (col g x = col g f0) && decide (x < j)))) ∧ (t.1 = (ordS g i).1 → ∀ x, x < j → col g x ≠ col g f0) ∧ (t.1 ≠ (ordS g i).1 → (pth g t.1).2 = col g f0) := by
        intro j
        induction j with
        | zero =>
          intro _ t ht
          subst ht
          exact ⟨Nat.le_refl _, a1, fun x hx => by rw [show decide (x < 0) = false from rfl, Bool.and_false, Bool.or_false]; exact a2 x hx, fun _ x hx => absurd hx (Nat.not_lt_zero _), fun h => absurd rfl h⟩
        | succ j ihj =>
          intro hj t ht
          obtain ⟨b0, b1, b2, b3, b4⟩ := ihj (by omega) _ rfl
          generalize hu : addL (col g) (col g f0) j ((ordS g i).1, (ordS g i).2.1) = u at b0 b1 b2 b3 b4
          by_cases hcj : col g j = col g f0
          · have ht : t = (u.1 + 1, updN u.2 u.1 j) := by rw [← ht, addL, if_pos hcj, hu]
            subst ht
            have hjb : (pth g u.1).1.testBit j = false := by rw [b2 j (by omega), hcj, hd0, decide_eq_false (Nat.lt_irrefl j)]; simp
            have hg : gst g (pth g u.1).1 (pth g u.1).2 = some j := by
              by_cases e : u.1 = (ordS g i).1
              · rw [gst_new (fun x hx ex => by rw [e] at ex ⊢; exact a3 x hx ex)]
                rw [nxt_cong (dn' := (ordS g i).2.2.1) (fun x hx => ?_), hn]
                · have h1 : ¬ j < f0 := fun q => absurd (show (!(ordS g i).2.2.1 (col g j) && !dec (mw g (ordS g i).2.2.1 (col g j))) = true by rw [hcj, hd0, dec_f hw0]; rfl) (fnd_lt hn j q)
                  have h2 : ¬ f0 < j := fun q => b3 e f0 q rfl
                  rw [show f0 = j by omega]
                · unfold dnS
                  cases hz : (ordS g i).2.2.1 (col g x) with
                  | true => exact dec_t (fun y hy ey => by rw [e, a2 y hy, ey]; exact hz)
                  | false => exact dec_f (fun q => by have q := q x hx rfl; rw [e, a2 x hx, hz] at q; cases q)
              · refine gst_own (fnd_is (by omega) (by rw [hjb, decide_eq_true (by rw [b4 e, hcj])]; rfl) (fun x hx q => ?_))
                rw [Bool.and_eq_true, decide_eq_true_eq, b4 e] at q
                have hb := b2 x (by omega)
                rw [decide_eq_true q.2, decide_eq_true hx] at hb
                rw [hb] at q
                simp at q
            have hp := pth_s hg
            refine ⟨by show _ ≤ u.1 + 1; omega, fun k hk2 => ?_, fun x hx => ?_, fun e => ?_, fun _ => ?_⟩
            · have hk2 : k < u.1 + 1 := hk2
              rcases (show k < u.1 ∨ k = u.1 by omega) with z | z
              · rw [b1 k z]
                show some (u.2 k) = some (updN u.2 u.1 j k)
                rw [updN_n (by omega)]
              · subst z
                rw [hg]
                show some j = some (updN u.2 u.1 j u.1)
                rw [updN_k]
            · show (pth g (u.1 + 1)).1.testBit x = _
              rw [hp, bit_or, b2 x hx]
              by_cases e : x = j
              · subst e
                rw [decide_eq_true hcj, decide_eq_true (Nat.lt_succ_self x)]
                simp
              · have : decide (x < j + 1) = decide (x < j) := decide_eq_decide.mpr (by omega)
                rw [this, decide_eq_false e, Bool.or_false]
            · have e : u.1 + 1 = (ordS g i).1 := e
              omega
            · show (pth g (u.1 + 1)).2 = _
              rw [hp]
              exact hcj
          · have ht : t = u := by rw [← ht, addL, if_neg hcj, hu]
            subst ht
            refine ⟨b0, b1, fun x hx => ?_, fun e x hx => ?_, b4⟩
            · rw [b2 x hx]
              by_cases e : x = j
              · subst e
                rw [decide_eq_false hcj]
                simp
              · have : decide (x < j + 1) = decide (x < j) := decide_eq_decide.mpr (by omega)
                rw [this]
            · rcases (show x < j ∨ x = j by omega) with z | z
              · exact b3 e x z
              · rw [z]; exact hcj
      obtain ⟨b0, b1, b2, b3, b4⟩ := key (labN g) (Nat.le_refl _) _ rfl
      unfold PA
      rw [ordS_some hn]
      dsimp only
      have hne : (addL (col g) (col g f0) (labN g) ((ordS g i).1, (ordS g i).2.1)).1 ≠ (ordS g i).1 := fun e => b3 e f0 hf0 rfl
      have hbit : ∀ x, x < labN g → (pth g (addL (col g) (col g f0) (labN g) ((ordS g i).1, (ordS g i).2.1)).1).1.testBit x = if col g x = col g f0 then true else (ordS g i).2.2.1 (col g x) := fun x hx => by
        rw [b2 x hx, decide_eq_true hx, Bool.and_true]
        by_cases e : col g x = col g f0
        · rw [if_pos e, decide_eq_true e, Bool.or_true]
        · rw [if_neg e, decide_eq_false e, Bool.or_false]
      refine ⟨b1, hbit, fun x hx e => ?_⟩
      rw [b4 hne] at e
      rw [hbit x hx, if_pos e]
/-- how many changes the order has -/
theorem ord_cnt {g : Nat → Nat} (hk : gok g) : ∀ i, (ordS g i).2.2.2 = fb_ct (fun c => (ordS g i).2.2.1 (c + 1)) 3 ∧ ∀ c, (ordS g i).2.2.1 c = true → ∃ f, f < labN g ∧ col g f = c := by
  intro i
  induction i with
  | zero => exact ⟨rfl, fun c h => by cases h⟩
  | succ i ih =>
    cases hn : nxt g (ordS g i).2.2.1 with
    | none => rw [ordS_none hn]; exact ih
    | some f0 =>
      obtain ⟨hf0, hd0, hw0⟩ := nxt_in hn
      have hc0 := col_in hk hf0
      rw [ordS_some hn]
      refine ⟨?_, fun c h => ?_⟩
      · show (ordS g i).2.2.2 + 1 = fb_ct (fun c => if c + 1 = col g f0 then true else (ordS g i).2.2.1 (c + 1)) 3
        rw [ih.1]
        refine (ct_flip (i := col g f0 - 1) (by omega) ?_ (if_pos (by omega)) (fun k hk => if_neg (by omega))).symm
        show (ordS g i).2.2.1 (col g f0 - 1 + 1) = false
        rw [show col g f0 - 1 + 1 = col g f0 by omega]
        exact hd0
      · have h : (if c = col g f0 then true else (ordS g i).2.2.1 c) = true := h
        by_cases e : c = col g f0
        · exact ⟨f0, hf0, e.symm⟩
        · rw [if_neg e] at h
          exact ih.2 c h
theorem T_00 {g : Nat → Nat} (hk : gok g) {T : Nat → Nat → Nat} (hT : DP g T) : T 0 0 = (ordS g 3).2.2.2 - 1 := by
  rw [DP_ok hk hT _ 0 0 rfl (IV_0 hk).1 (by decide) (IV_0 hk).2.2, lbd, if_pos rfl, (ord_cnt hk 3).1]
  refine congrArg (· - 1) (fb_ct_cong (fun c hc => ?_))
  cases hz : (ordS g 3).2.2.1 (c + 1) with
  | true =>
    obtain ⟨f, hf, e⟩ := (ord_cnt hk 3).2 _ hz
    exact dec_t ⟨⟨f, hf, Nat.zero_testBit f, e⟩, by omega⟩
  | false => exact dec_f (fun ⟨⟨f, hf, _, e⟩, _⟩ => by have := ord_all hk f hf; rw [e, hz] at this; cases this)
end P38
