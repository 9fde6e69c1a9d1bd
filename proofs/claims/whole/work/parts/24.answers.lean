/-! What a call answers and leaves, as functions; SewnFields: the private helpers, queries -/
section P24
variable {l : Launch} {α : Nat → Nat} {D : va_G} {cA : Nat → ClassId}
/-- the abstract state: the text; the cloth; the history; the snapshots; the observations -/
abbrev AS : Type := (Nat × (Nat → Nat)) × (Nat → Nat) × (Nat × (Nat → Nat → Nat)) × ((Nat → Bool) × (Nat → Nat → Nat)) × (Nat × (Nat → Nat) × (Nat → Nat) × (Nat → Nat))
def SN (sv : Nat → Bool) (S : Nat → Nat → Nat) (M : Mem) : Prop := ∀ i, i < 2 → M 49 i = bI (sv i) ∧ (sv i = true → hC (S i) (M (47 + i)))
def oka (s : AS) : Prop := gok s.2.1 ∧ (∀ i, i < s.2.2.1.1 → gok (s.2.2.1.2 i)) ∧ ∀ i, i < 2 → s.2.2.2.1.1 i = true → gok (s.2.2.2.1.2 i)
/-- the class holds the state -/
def XR (s : AS) (M : Mem) : Prop := oka s ∧ TX s.1.1 s.1.2 M ∧ (hC s.2.1 (M 2) ∧ MPg s.2.1 M) ∧ (∃ nx, HX s.2.2.1.1 nx s.2.2.1.2 M) ∧ SN s.2.2.2.1.1 s.2.2.2.1.2 M ∧ OB s.2.2.2.2.1 s.2.2.2.2.2.1 s.2.2.2.2.2.2.1 s.2.2.2.2.2.2.2 M
/-- the class's scratch cells alone have changed -/
def FRQ (M M1 : Mem) : Prop := ∀ q, (q < 16 ∨ 33 < q) → M1 q = M q
theorem FRQ_r {M : Mem} : FRQ M M := fun _ _ => rfl
theorem FRQ_t {M M1 M2 : Mem} (h : FRQ M M1) (h2 : FRQ M1 M2) : FRQ M M2 := fun q hq => (h2 q hq).trans (h q hq)
theorem FRQ_A {M M1 : Mem} (h : FRA M M1) : FRQ M M1 := fun q hq => h q (by omega)
theorem HX_k {n nx : Nat} {G : Nat → Nat → Nat} {M M1 : Mem} (h : HX n nx G M) (h8 : M1 38 = M 38) (hr : ∀ q, 40 ≤ q → q ≤ 45 → M1 q = M q) : HX n nx G M1 := by
  refine ⟨by rw [h8]; exact h.1, by rw [h8]; exact h.2.1, h.2.2.1, h.2.2.2.1, fun i hi => ?_⟩
  rw [hr _ (by omega) (by omega)]
  exact h.2.2.2.2 i hi
theorem SN_k {sv : Nat → Bool} {S : Nat → Nat → Nat} {M M1 : Mem} (h : SN sv S M) (hr : ∀ q, 47 ≤ q → q ≤ 49 → M1 q = M q) : SN sv S M1 := fun i hi => by
  rw [hr 49 (by decide) (by decide), hr (47 + i) (by omega) (by omega)]
  exact h i hi
theorem OB_k {n : Nat} {dr wt fg : Nat → Nat} {M M1 : Mem} (h : OB n dr wt fg M) (hr : ∀ q, 34 ≤ q → q ≤ 37 → M1 q = M q) : OB n dr wt fg M1 := by
  unfold OB at *
  rw [hr 34 (by decide) (by decide), hr 35 (by decide) (by decide), hr 36 (by decide) (by decide), hr 37 (by decide) (by decide)]
  exact h
theorem MPg_k {g : Nat → Nat} {M M1 : Mem} (h : MPg g M) (hr : ∀ q, 8 ≤ q → q ≤ 15 → M1 q = M q) : MPg g M1 := by
  unfold MPg MP at *
  rw [hr 12 (by decide) (by decide), hr 8 (by decide) (by decide), hr 13 (by decide) (by decide), hr 14 (by decide) (by decide), hr 15 (by decide) (by decide)]
  exact h
theorem XR_Q {s : AS} {M M1 : Mem} (h : XR s M) (hF : FRQ M M1) : XR s M1 := by
  obtain ⟨h0, h1, ⟨h2, h3⟩, ⟨nx, h4⟩, h5, h6⟩ := h
  exact ⟨h0, TX_3 h1 (hF 4 (by decide)) (by rw [hF 3 (by decide)]), ⟨by rw [hF 2 (by decide)]; exact h2, MPg_k h3 (fun q _ _ => hF q (by omega))⟩, ⟨nx, HX_k h4 (hF 38 (by decide)) (fun q _ _ => hF q (by omega))⟩, SN_k h5 (fun q _ _ => hF q (by omega)), OB_k h6 (fun q _ _ => hF q (by omega))⟩
/-- a call's answer and what it leaves; the other side's cells stay -/
def PX (M : Mem) (p : Int32 × AS) (r : AV) (M1 : Mem) : Prop := r = .inl p.1 ∧ XR p.2 M1 ∧ ∀ q, 50 ≤ q → M1 q = M q
abbrev tN (x : Int32) : Nat := x.toNatClampNeg
def inI (lo hi : Nat) (x : Int32) : Prop := nI lo ≤ x ∧ x ≤ nI hi
theorem inI_nI {lo hi : Nat} {x : Int32} (h : inI lo hi x) (hl : lo ≤ hi) (hh : hi < 2 ^ 31) : ∃ j, lo ≤ j ∧ j ≤ hi ∧ x = nI j := by
  obtain ⟨h1, h2⟩ := h
  have h3 := nI_pos (show lo < 2 ^ 31 by omega)
  have h0 : ¬ x < 0 := by grind
  obtain ⟨j, hj, rfl⟩ := nI_of h0
  exact ⟨j, (nI_leI (by omega) hj).mp h1, (nI_leI hj hh).mp h2, rfl⟩
theorem inI_of {lo hi j : Nat} (h1 : lo ≤ j) (h2 : j ≤ hi) (hh : hi < 2 ^ 31) : inI lo hi (nI j) := ⟨nI_le h1 (by omega), nI_le h2 hh⟩
noncomputable def cI {β : Type} (P : Prop) (a b : β) : β := if dec P = true then a else b
theorem cI_t {β : Type} {P : Prop} {a b : β} (h : P) : cI P a b = a := if_pos (dec_t h)
theorem cI_f {β : Type} {P : Prop} {a b : β} (h : ¬ P) : cI P a b = b := if_neg (by rw [dec_f h]; decide)
/-- there is a field f -/
def hasF (g : Nat → Nat) (f : Int32) : Prop := 0 ≤ f ∧ f < nI (labN g)
theorem labN_48 {g : Nat → Nat} : labN g ≤ 48 := (labF_inv g).1
theorem hasF_nI {g : Nat → Nat} {f : Int32} (h : hasF g f) : ∃ j, j < labN g ∧ f = nI j := by
  obtain ⟨j, hj, rfl⟩ := nI_of (show ¬ f < 0 by have := h.1; grind)
  exact ⟨j, (nI_ltI hj (by have := labN_48 (g := g); omega)).mp h.2, rfl⟩
theorem hasF_of {g : Nat → Nat} {j : Nat} (h : j < labN g) : hasF g (nI j) := ⟨nI_pos' (by have := labN_48 (g := g); omega), nI_lt h (by have := labN_48 (g := g); omega)⟩
def numO (g : Nat → Nat) (p : Nat) : Nat := g 0 * (p / 8) + p % 8
noncomputable def fsz (g : Nat → Nat) (f : Nat) : Nat := fb_ct (fun q => dec (conn g (labR g f) q)) 48
noncomputable abbrev rwG (g : Nat → Nat) (w f : Nat) : RS := rwS (labF g) w f (g 0) (g 1)
noncomputable def btrF (g : Nat → Nat) (f : Nat) : Nat → Nat → Nat
  | 0, _ => 0
  | k + 1, what => if figG g 0 f what = figG g 1 f what then btrF g f k (what + 1) else if figG g 0 f what < figG g 1 f what then 0 else 1
noncomputable def btr (g : Nat → Nat) (f : Nat) : Nat := btrF g f 3 1
noncomputable def cvG (g : Nat → Nat) (f q : Nat) : Bool := dec (covP (g (4 + col g f)) (g 0) (g 1) (g 3) (rwG g (g (4 + col g f)) f) (rwG g (g (4 + col g f)) f).1 q)
noncomputable def cvN (g : Nat → Nat) (f c : Nat) : Nat := fb_ct (fun q => cvG g f q && decide (g (12 + q) = c)) 48
noncomputable def fldA (g : Nat → Nat) (f k : Nat) : Int32 := match k with
  | 0 => nI (col g f)
  | 1 => nI (fsz g f)
  | 2 => nI (numO g (labR g f))
  | 3 => nI (btr g f)
  | 4 => nI (fb_ct (cvG g f) 48)
  | 5 => nI (fb_ct (cvG g f) 48) - nI (cvN g f 0) - nI (cvN g f (col g f))
  | 6 => nI (cvN g f 0)
  | _ => nI (fb_ct (fun x => dec (tchF (labF g) f x)) 48)
noncomputable def qField (g : Nat → Nat) (f w : Int32) : Int32 := cI (hasF g f ∧ inI 0 7 w) (fldA g (tN f) (tN w)) (-1)
noncomputable def qCell (g : Nat → Nat) (x y w : Int32) : Int32 := cI (hasD (g 0) (g 1) x y = true ∧ inI 0 1 w) (cI (w = nI 0) (nI (g (12 + (8 * tN y + tN x)))) (oI (labF g (8 * tN y + tN x)))) (-1)
noncomputable def qSewn (g : Nat → Nat) (f v w : Int32) : Int32 := cI (hasF g f ∧ inI 0 1 v ∧ inI 0 3 w) (nI (figG g (tN v) (tN f) (tN w))) (-1)
noncomputable def rowV (g : Nat → Nat) (v f r k : Nat) : Nat := match k with
  | 0 => numO g (plc v ((rwG g v f).2.1 r) ((rwG g v f).2.2.1 r))
  | 1 => rLen (rwG g v f) r
  | 2 => rSti (rwG g v f) (g 2) r
  | _ => (psS (rwG g v f)).2.1 r
noncomputable def qRow (g : Nat → Nat) (f v r w : Int32) : Int32 := cI (hasF g f ∧ inI 0 1 v ∧ 0 ≤ r ∧ inI 0 3 w) (cI (r < nI (rwG g (tN v) (tN f)).1) (nI (rowV g (tN v) (tN f) (tN r) (tN w))) (-9)) (-1)
noncomputable def parV (g : Nat → Nat) (v f p k : Nat) : Int32 := match k with
  | 0 => nI ((psS (rwG g v f)).2.2.2.2 p)
  | 1 => nI (numO g (pBeg v (rwG g v f) (psS (rwG g v f)) p))
  | 2 => nI (numO g (pEnd v (rwG g v f) (psS (rwG g v f)) p))
  | _ => if p + 1 < (psS (rwG g v f)).1 then nI (hid g v (rwG g v f) (psS (rwG g v f)) p) else -9
noncomputable def qPart (g : Nat → Nat) (f v p w : Int32) : Int32 := cI (hasF g f ∧ inI 0 1 v ∧ 0 ≤ p ∧ inI 0 3 w) (cI (p < nI (psS (rwG g (tN v) (tN f))).1) (parV g (tN v) (tN f) (tN p) (tN w)) (-9)) (-1)
noncomputable def qOrder (g : Nat → Nat) (k : Int32) : Int32 := cI (k < -1) (-1) (cI (10 < labN g) (-3) (cI (labN g = 0) (-9) (cI (k = -1) (nI ((ordS g 3).2.2.2 - 1)) (oI (if tN k < (ordS g 3).1 then some ((ordS g 3).2.1 (tN k)) else none)))))
noncomputable def agB (g : Nat → Nat) (o : Nat × (Nat → Nat) × (Nat → Nat) × (Nat → Nat)) (f : Nat) : Bool := dec (agr g o.1 o.2.1 o.2.2.1 o.2.2.2 f)
noncomputable def qWhich (g : Nat → Nat) (o : Nat × (Nat → Nat) × (Nat → Nat) × (Nat → Nat)) (w : Int32) : Int32 := cI (inI 0 1 w) (cI (w = nI 0) (nI (fb_ct (agB g o) (labN g))) (oI (fnd (agB g o) (labN g)))) (-1)
noncomputable def qCount (s : AS) (w : Int32) : Int32 := cI (w = nI 0) (nI (s.2.1 0)) (cI (w = nI 1) (nI (s.2.1 1)) (cI (w = nI 2) (nI (labN s.2.1)) (cI (w = nI 3) (nI (s.2.1 2)) (cI (w = nI 4) (nI (s.2.1 3)) (cI (w = nI 5) (nI (fb_ct (fun q => (labF s.2.1 q).isSome) 48)) (cI (w = nI 6) (nI s.2.2.2.2.1) (cI (w = nI 7) (nI s.1.1) (cI (w = nI 8) (nI s.2.2.1.1) (-1)))))))))
def push (s : AS) (g : Nat → Nat) : AS := (s.1, g, (min (s.2.2.1.1 + 1) 6, hCons s.2.1 s.2.2.1.2), s.2.2.2)
noncomputable def nType (s : AS) (x : Int32) : Int32 × AS := cI (inI 0 255 x) (if 120 ≤ s.1.1 then (-3, s) else (nI (s.1.1 + 1), (s.1.1 + 1, updN s.1.2 s.1.1 (tN x)), s.2)) (-1, s)
def nClear (s : AS) : Int32 × AS := (nI s.1.1, (0, s.1.2), s.2)
noncomputable def pT (s : AS) : Bool × Nat × RT := pRd s.1.1 s.1.2 120 0 (0, gS, 0)
noncomputable def nTells (s : AS) : Int32 × AS := if (pT s).1 = false ∨ (pT s).2.2.2.2 = 0 then (-10 - nI (tkS s.1.1 s.1.2 (pT s).2.2.1), s) else (nI (pT s).2.1, (0, s.1.2), (push s (pT s).2.2.2.1).2)
def nChange (s : AS) (ix v : Nat) : Int32 × AS := if s.2.1 ix = v then (-2, s) else (nI (s.2.1 ix), push s (updN s.2.1 ix v))
noncomputable def nWays (s : AS) (c w : Int32) : Int32 × AS := cI (inI 1 3 c ∧ inI 0 1 w) (nChange s (4 + tN c) (tN w)) (-1, s)
noncomputable def nRanks (s : AS) (c w : Int32) : Int32 × AS := cI (inI 1 3 c ∧ inI 0 9 w) (nChange s (8 + tN c) (tN w)) (-1, s)
noncomputable def nMosts (s : AS) (w : Int32) : Int32 × AS := cI (inI 1 5 w) (nChange s 2 (tN w)) (-1, s)
noncomputable def nPulls (s : AS) (w : Int32) : Int32 × AS := cI (inI 0 2 w) (nChange s 3 (tN w)) (-1, s)
def nUndo (s : AS) : Int32 × AS := if s.2.2.1.1 = 0 then (-2, s) else (nI (s.2.2.1.1 - 1), s.1, s.2.2.1.2 0, (s.2.2.1.1 - 1, fun i => s.2.2.1.2 (i + 1)), s.2.2.2)
/-- a place lies in the rectangle -/
def rct (x y x2 y2 p : Nat) : Bool := decide ((x ≤ p % 8 ∧ p % 8 ≤ x2) ∧ y ≤ p / 8 ∧ p / 8 ≤ y2)
def pntC (g : Nat → Nat) (x y x2 y2 c : Nat) : Nat := fb_ct (fun p => rct x y x2 y2 p && decide (g (12 + p) ≠ c)) 48
def pntG (g : Nat → Nat) (x y x2 y2 c : Nat) : Nat → Nat := fun j => if 12 ≤ j ∧ rct x y x2 y2 (j - 12) = true then c else g j
noncomputable def nPaints (s : AS) (x y x2 y2 c : Int32) : Int32 × AS := cI (hasD (s.2.1 0) (s.2.1 1) x y = true ∧ hasD (s.2.1 0) (s.2.1 1) x2 y2 = true ∧ ¬ x2 < x ∧ ¬ y2 < y ∧ inI 0 3 c)
  (if pntC s.2.1 (tN x) (tN y) (tN x2) (tN y2) (tN c) = 0 then (-2, s) else (nI (pntC s.2.1 (tN x) (tN y) (tN x2) (tN y2) (tN c)), push s (pntG s.2.1 (tN x) (tN y) (tN x2) (tN y2) (tN c)))) (-1, s)
noncomputable def nSees (s : AS) (v w n : Int32) : Int32 × AS := cI (inI 0 1 v ∧ inI 0 3 w ∧ inI 0 99 n) (if 6 ≤ s.2.2.2.2.1 then (-3, s) else (nI (s.2.2.2.2.1 + 1), s.1, s.2.1, s.2.2.1, s.2.2.2.1, (s.2.2.2.2.1 + 1, updN s.2.2.2.2.2.1 s.2.2.2.2.1 (tN v), updN s.2.2.2.2.2.2.1 s.2.2.2.2.1 (tN w), updN s.2.2.2.2.2.2.2 s.2.2.2.2.1 (tN n)))) (-1, s)
def nForget (s : AS) : Int32 × AS := (nI s.2.2.2.2.1, s.1, s.2.1, s.2.2.1, s.2.2.2.1, (0, s.2.2.2.2.2))
noncomputable def nKeep (s : AS) (i : Int32) : Int32 × AS := cI (inI 0 1 i) (nI (labN s.2.1), s.1, s.2.1, s.2.2.1, (fun j => if j = tN i then true else s.2.2.2.1.1 j, fun j => if j = tN i then s.2.1 else s.2.2.2.1.2 j), s.2.2.2.2) (-1, s)
noncomputable def nBack (s : AS) (i : Int32) : Int32 × AS := cI (inI 0 1 i) (if s.2.2.2.1.1 (tN i) = false then (-2, s) else (nI (labN (s.2.2.2.1.2 (tN i))), s.1, s.2.2.2.1.2 (tN i), (0, s.2.2.1.2), s.2.2.2)) (-1, s)
theorem cI_c {β : Type} {P : Prop} {a b c : β} (h1 : P → a = c) (h2 : ¬ P → b = c) : cI P a b = c := by
  by_cases h : P
  · rw [cI_t h]; exact h1 h
  · rw [cI_f h]; exact h2 h
theorem hasD_nI {w h : Nat} {x y : Int32} (hh : hasD w h x y = true) (w1 : 1 ≤ w) (h1 : 1 ≤ h) (w8 : w ≤ 8) (h6 : h ≤ 6) : ∃ a b, a < w ∧ b < h ∧ x = nI a ∧ y = nI b := by
  unfold hasD at hh
  rw [Bool.and_eq_true, decide_eq_true_eq, decide_eq_true_eq] at hh
  obtain ⟨a, -, ha, rfl⟩ := inI_nI (lo := 0) (hi := w - 1) hh.1 (Nat.zero_le _) (by omega)
  obtain ⟨b, -, hb, rfl⟩ := inI_nI (lo := 0) (hi := h - 1) hh.2 (Nat.zero_le _) (by omega)
  exact ⟨a, b, by omega, by omega, rfl, rfl⟩
theorem nN {n : Nat} (h : n < 2 ^ 31) : tN (nI n) = n := nI_clamp h
theorem rec_x {s : AS} {M : Mem} (h : XR s M) : hC s.2.1 (M 2) ∧ gok s.2.1 ∧ MPg s.2.1 M := ⟨h.2.2.1.1, h.1.1, h.2.2.1.2⟩
theorem l_better {d f : Nat} {g : Nat → Nat} {M : Mem} (hg : hC g (M 2)) (hk : gok g) (hM : MPg g M) (hf : f < labN g) : ∀ (k i : Nat) (M1 : Mem) (x3 x4 : Option AV), 4 - i = k → 1 ≤ i → i ≤ 4 → FRA M M1 → btr g f = btrF g f k i → G l α D cA uX9_betterWay none (d + 5) (fun r M1 => r = .inl (nI (btr g f)) ∧ FRA M M1) 2 [some (.inr 0), some (.inl (nI f)), some (.inl (nI i)), x3, x4] [] M1 := by
  intro k
  induction k with
  | zero =>
    intro i M1 x3 x4 hk2 hi hi4 hF he
    refine G_iload_n dX9_betterWay_2 rfl rfl ?_
    refine G_iconst (v := (nI 3)) dX9_betterWay_3 (by decide) ?_
    refine Gn_icmp_gt (tgt := 92) dX9_betterWay_4 (by decide) (by omega) (by omega) (fun h4 => ?_) (fun h4 => ?_)
    · refine G_iconst (v := (nI 0)) dX9_betterWay_92 (by decide) ?_
      refine G_iret dX9_betterWay_93 rfl rfl ?_
      exact ⟨by rw [he]; rfl, hF⟩
    · omega
  | succ k ih =>
    intro i M1 x3 x4 hk2 hi hi4 hF he
    refine G_iload_n dX9_betterWay_2 rfl rfl ?_
    refine G_iconst (v := (nI 3)) dX9_betterWay_3 (by decide) ?_
    refine Gn_icmp_gt (tgt := 92) dX9_betterWay_4 (by decide) (by omega) (by omega) (fun h4 => ?_) (fun h4 => ?_)
    · omega
    · refine G_aload_n dX9_betterWay_7 rfl rfl ?_
      refine G_getR (j := 17) dX9_betterWay_8 fX9_40 rfl rfl ?_
      refine G_aload_n dX9_betterWay_11 rfl rfl ?_
      refine G_getR (j := 1) dX9_betterWay_12 fX9_12 rfl rfl ?_
      refine G_aload_n dX9_betterWay_15 rfl rfl ?_
      refine G_getR (j := 8) dX9_betterWay_16 fX9_33 rfl rfl ?_
      refine G_iload_n dX9_betterWay_19 rfl rfl ?_
      refine G_iconst (v := (nI 0)) dX9_betterWay_20 (by decide) ?_
      refine G_callVv (ν := uX5_lay) (As := [.inr 1, .inr 8, .inl (nI f), .inl (nI 0)]) dX9_betterWay_21 nX9_163 kX5_lay rfl rfl rfl rfl rfl (Nat.le_of_ble_eq_true rfl) (c_layG (w := 0) (hC_A hg hF) hk (MPg_A hM hF) hf (by decide)) ?_
      rintro _ Ma ⟨hFa, hSa⟩
      refine G_aload_n dX9_betterWay_24 rfl rfl ?_
      refine G_getR (j := 17) dX9_betterWay_25 fX9_40 rfl rfl ?_
      refine G_aload_n dX9_betterWay_28 rfl rfl ?_
      refine G_getR (j := 1) dX9_betterWay_29 fX9_12 rfl rfl ?_
      refine G_iload_n dX9_betterWay_32 rfl rfl ?_
      refine G_callVi (ν := uX5_figure) (As := [.inr 1, .inl (nI i)]) dX9_betterWay_33 nX9_167 kX5_figure rfl rfl rfl rfl rfl (Nat.le_of_ble_eq_true rfl) (c_figG (k := i) (hC_A hg (FRA_t hF hFa)) hk hSa (by omega)) ?_
      rintro _ Mb ⟨rfl, hFb⟩
      have l0 := figG_lt (w := 0) (f := f) (k := i) hk (by omega)
      refine G_istore_n (L2 := [some (.inr 0), some (.inl (nI f)), some (.inl (nI i)), some (.inl (nI (figG g 0 f i))), x4]) dX9_betterWay_36 rfl (Nat.le_of_ble_eq_true rfl) rfl ?_
      refine G_aload_n dX9_betterWay_37 rfl rfl ?_
      refine G_getR (j := 17) dX9_betterWay_38 fX9_40 rfl rfl ?_
      refine G_aload_n dX9_betterWay_41 rfl rfl ?_
      refine G_getR (j := 1) dX9_betterWay_42 fX9_12 rfl rfl ?_
      refine G_aload_n dX9_betterWay_45 rfl rfl ?_
      refine G_getR (j := 8) dX9_betterWay_46 fX9_33 rfl rfl ?_
      refine G_iload_n dX9_betterWay_49 rfl rfl ?_
      refine G_iconst (v := (nI 1)) dX9_betterWay_50 (by decide) ?_
      refine G_callVv (ν := uX5_lay) (As := [.inr 1, .inr 8, .inl (nI f), .inl (nI 1)]) dX9_betterWay_51 nX9_163 kX5_lay rfl rfl rfl rfl rfl (Nat.le_of_ble_eq_true rfl) (c_layG (w := 1) (hC_A hg (FRA_t hF (FRA_t hFa hFb))) hk (MPg_A hM (FRA_t hF (FRA_t hFa hFb))) hf (by decide)) ?_
      rintro _ Mc ⟨hFc, hSc⟩
      refine G_aload_n dX9_betterWay_54 rfl rfl ?_
      refine G_getR (j := 17) dX9_betterWay_55 fX9_40 rfl rfl ?_
      refine G_aload_n dX9_betterWay_58 rfl rfl ?_
      refine G_getR (j := 1) dX9_betterWay_59 fX9_12 rfl rfl ?_
      refine G_iload_n dX9_betterWay_62 rfl rfl ?_
      refine G_callVi (ν := uX5_figure) (As := [.inr 1, .inl (nI i)]) dX9_betterWay_63 nX9_167 kX5_figure rfl rfl rfl rfl rfl (Nat.le_of_ble_eq_true rfl) (c_figG (k := i) (hC_A hg (FRA_t hF (FRA_t hFa (FRA_t hFb hFc)))) hk hSc (by omega)) ?_
      rintro _ Md ⟨rfl, hFd⟩
      have l1 := figG_lt (w := 1) (f := f) (k := i) hk (by omega)
      have hFF := FRA_t hF (FRA_t hFa (FRA_t hFb (FRA_t hFc hFd)))
      refine G_istore (L2 := [some (.inr 0), some (.inl (nI f)), some (.inl (nI i)), some (.inl (nI (figG g 0 f i))), some (.inl (nI (figG g 1 f i)))]) dX9_betterWay_66 (Nat.le_of_ble_eq_true rfl) rfl ?_
      refine G_iload_n dX9_betterWay_68 rfl rfl ?_
      refine G_iload dX9_betterWay_69 rfl ?_
      refine Gn_icmp_eq (tgt := 86) dX9_betterWay_71 (by decide) (by omega) (by omega) (fun h71 => ?_) (fun h71 => ?_)
      · refine G_iinc (v := (nI (i + 1))) (L2 := [some (.inr 0), some (.inl (nI f)), some (.inl (nI (i + 1))), some (.inl (nI (figG g 0 f i))), some (.inl (nI (figG g 1 f i)))]) dX9_betterWay_86 rfl (nI_1 _) rfl ?_
        refine G_goto (tgt := 2) dX9_betterWay_89 (by decide) ?_
        exact ih (i + 1) Md _ _ (by omega) (by omega) (by omega) hFF (by rw [he, btrF, if_pos h71])
      · refine G_iload_n dX9_betterWay_74 rfl rfl ?_
        refine G_iload dX9_betterWay_75 rfl ?_
        refine Gn_icmp_ge (tgt := 84) dX9_betterWay_77 (by decide) (by omega) (by omega) (fun h77 => ?_) (fun h77 => ?_)
        · refine G_iconst (v := (nI 1)) dX9_betterWay_84 (by decide) ?_
          refine G_iret dX9_betterWay_85 rfl rfl ?_
          exact ⟨by rw [he, btrF, if_neg h71, if_neg (by omega)], hFF⟩
        · refine G_iconst (v := (nI 0)) dX9_betterWay_80 (by decide) ?_
          refine G_goto (tgt := 85) dX9_betterWay_81 (by decide) ?_
          refine G_iret dX9_betterWay_85 rfl rfl ?_
          exact ⟨by rw [he, btrF, if_neg h71, if_pos h77], hFF⟩
theorem c_better {d f : Nat} {g : Nat → Nat} {M : Mem} (hg : hC g (M 2)) (hk : gok g) (hM : MPg g M) (hf : f < labN g) : Call l α D cA uX9_betterWay (d + 5) [.inr 0, .inl (nI f)] M (fun r M1 => r = .inl (nI (btr g f)) ∧ FRA M M1) := by
  refine Call.of kX9_betterWay.1 (Nat.le_of_ble_eq_true rfl) ?_
  refine G_iconst (v := (nI 1)) dX9_betterWay_0 (by decide) ?_
  refine G_istore_n (L2 := [some (.inr 0), some (.inl (nI f)), some (.inl (nI 1)), none, none]) dX9_betterWay_1 rfl (Nat.le_of_ble_eq_true rfl) rfl ?_
  exact l_better hg hk hM hf 3 1 M none none rfl (Nat.le_refl _) (by decide) FRA_r rfl
theorem c_covered_4 {d f : Nat} {g : Nat → Nat} {M : Mem} (hg : hC g (M 2)) (hk : gok g) (hM : MPg g M) (hf : f < labN g) : Call l α D cA uX9_covered (d + 5) [.inr 0, .inl (nI f), .inl (nI 4)] M (fun r M1 => r = .inl (fldA g f 4) ∧ FRA M M1) := by
  refine Call.of kX9_covered.1 (Nat.le_of_ble_eq_true rfl) ?_
  have hcf := col_in hk hf
  have hw := hk.2.2.2.2.1 (col g f) (by omega)
  have hn48 := labN_48 (g := g)
  refine G_aload_n dX9_covered_0 rfl rfl ?_
  refine G_getR (j := 8) dX9_covered_1 fX9_33 rfl rfl ?_
  refine G_iload_n dX9_covered_4 rfl rfl ?_
  refine G_callVi (ν := uX1_colourOf) (As := [.inl (nI f)]) dX9_covered_5 nX9_142 kX1_colourOf rfl rfl rfl rfl rfl (Nat.le_of_ble_eq_true rfl) (c_colourOf (x := nI (col g f)) (by omega) (hM.2.2.2 f hf).1) ?_
  rintro _ M8 ⟨rfl, e9⟩
  subst M8
  refine G_istore_n (L2 := [some (.inr 0), some (.inl (nI f)), some (.inl (nI 4)), some (.inl (nI (col g f))), none]) dX9_covered_8 rfl (Nat.le_of_ble_eq_true rfl) rfl ?_
  refine G_aload_n dX9_covered_9 rfl rfl ?_
  refine G_getR (j := 17) dX9_covered_10 fX9_40 rfl rfl ?_
  refine G_aload_n dX9_covered_13 rfl rfl ?_
  refine G_getR (j := 1) dX9_covered_14 fX9_12 rfl rfl ?_
  refine G_aload_n dX9_covered_17 rfl rfl ?_
  refine G_getR (j := 8) dX9_covered_18 fX9_33 rfl rfl ?_
  refine G_iload_n dX9_covered_21 rfl rfl ?_
  refine G_aload_n dX9_covered_22 rfl rfl ?_
  refine G_getR (j := 1) dX9_covered_23 fX9_12 rfl rfl ?_
  refine G_iload_n dX9_covered_26 rfl rfl ?_
  refine G_callVi (ν := uX0_wayOf) (As := [.inl (nI (col g f))]) dX9_covered_27 nX9_248 kX0_wayOf rfl rfl rfl rfl rfl (Nat.le_of_ble_eq_true rfl) (c_wayOf (o := 1) (v := 2) rfl rfl hcf.1 hcf.2.1) ?_
  rintro _ M8 ⟨rfl, e9⟩
  subst M8
  rw [hg (4 + col g f) (by omega)]
  refine G_callVv (ν := uX5_lay) (As := [.inr 1, .inr 8, .inl (nI f), .inl (nI (g (4 + col g f)))]) dX9_covered_30 nX9_163 kX5_lay rfl rfl rfl rfl rfl (Nat.le_of_ble_eq_true rfl) (c_layG hg hk hM hf (by omega)) ?_
  rintro _ Ma ⟨hFa, hSa⟩
  have hga := hC_A hg hFa
  refine G_aload_n dX9_covered_33 rfl rfl ?_
  refine G_getR (j := 17) dX9_covered_34 fX9_40 rfl rfl ?_
  refine G_aload_n dX9_covered_37 rfl rfl ?_
  refine G_getR (j := 1) dX9_covered_38 fX9_12 rfl rfl ?_
  refine G_callVv (ν := uX5_cover) (As := [.inr 1]) dX9_covered_41 nX9_251 kX5_cover rfl rfl rfl rfl rfl (Nat.le_of_ble_eq_true rfl) (c_cover hSa hk.1.2 hk.2.1.2 (by omega) (hga 0 (by decide)) (hga 1 (by decide)) (hga 3 (by decide)) hk.2.2.2.1) ?_
  rintro _ Mb ⟨b, eb, hb⟩
  have hFb : FRA M Mb := FRA_t hFa (by subst eb; exact fun q hq => mo_q (by omega))
  have hgb := hC_A hg hFb
  have hbb : ∀ q, q < 48 → Mb 30 q = bI (cvG g f q) := fun q hq => by rw [eb, mo_o]; exact hb q hq
  refine G_iload_n dX9_covered_44 rfl rfl ?_
  refine G_iconst (v := (nI 4)) dX9_covered_45 (by decide) ?_
  refine Gn_icmp_ne (tgt := 57) dX9_covered_46 (by decide) (by omega) (by omega) (fun h46 => ?_) (fun h46 => ?_)
  · omega
  · refine G_aload_n dX9_covered_49 rfl rfl ?_
    refine G_getR (j := 17) dX9_covered_50 fX9_40 rfl rfl ?_
    refine G_callVi (ν := uX5_coveredCells) (As := []) dX9_covered_53 nX9_254 kX5_coveredCells rfl rfl rfl rfl rfl (Nat.le_of_ble_eq_true rfl) (c_covCells hbb) ?_
    rintro _ M8 ⟨rfl, e9⟩
    subst M8
    refine G_iret dX9_covered_56 rfl rfl ?_
    exact ⟨rfl, hFb⟩
theorem c_covered_5 {d f : Nat} {g : Nat → Nat} {M : Mem} (hg : hC g (M 2)) (hk : gok g) (hM : MPg g M) (hf : f < labN g) : Call l α D cA uX9_covered (d + 5) [.inr 0, .inl (nI f), .inl (nI 5)] M (fun r M1 => r = .inl (fldA g f 5) ∧ FRA M M1) := by
  refine Call.of kX9_covered.1 (Nat.le_of_ble_eq_true rfl) ?_
  have hcf := col_in hk hf
  have hw := hk.2.2.2.2.1 (col g f) (by omega)
  have hn48 := labN_48 (g := g)
  refine G_aload_n dX9_covered_0 rfl rfl ?_
  refine G_getR (j := 8) dX9_covered_1 fX9_33 rfl rfl ?_
  refine G_iload_n dX9_covered_4 rfl rfl ?_
  refine G_callVi (ν := uX1_colourOf) (As := [.inl (nI f)]) dX9_covered_5 nX9_142 kX1_colourOf rfl rfl rfl rfl rfl (Nat.le_of_ble_eq_true rfl) (c_colourOf (x := nI (col g f)) (by omega) (hM.2.2.2 f hf).1) ?_
  rintro _ M8 ⟨rfl, e9⟩
  subst M8
  refine G_istore_n (L2 := [some (.inr 0), some (.inl (nI f)), some (.inl (nI 5)), some (.inl (nI (col g f))), none]) dX9_covered_8 rfl (Nat.le_of_ble_eq_true rfl) rfl ?_
  refine G_aload_n dX9_covered_9 rfl rfl ?_
  refine G_getR (j := 17) dX9_covered_10 fX9_40 rfl rfl ?_
  refine G_aload_n dX9_covered_13 rfl rfl ?_
  refine G_getR (j := 1) dX9_covered_14 fX9_12 rfl rfl ?_
  refine G_aload_n dX9_covered_17 rfl rfl ?_
  refine G_getR (j := 8) dX9_covered_18 fX9_33 rfl rfl ?_
  refine G_iload_n dX9_covered_21 rfl rfl ?_
  refine G_aload_n dX9_covered_22 rfl rfl ?_
  refine G_getR (j := 1) dX9_covered_23 fX9_12 rfl rfl ?_
  refine G_iload_n dX9_covered_26 rfl rfl ?_
  refine G_callVi (ν := uX0_wayOf) (As := [.inl (nI (col g f))]) dX9_covered_27 nX9_248 kX0_wayOf rfl rfl rfl rfl rfl (Nat.le_of_ble_eq_true rfl) (c_wayOf (o := 1) (v := 2) rfl rfl hcf.1 hcf.2.1) ?_
  rintro _ M8 ⟨rfl, e9⟩
  subst M8
  rw [hg (4 + col g f) (by omega)]
  refine G_callVv (ν := uX5_lay) (As := [.inr 1, .inr 8, .inl (nI f), .inl (nI (g (4 + col g f)))]) dX9_covered_30 nX9_163 kX5_lay rfl rfl rfl rfl rfl (Nat.le_of_ble_eq_true rfl) (c_layG hg hk hM hf (by omega)) ?_
  rintro _ Ma ⟨hFa, hSa⟩
  have hga := hC_A hg hFa
  refine G_aload_n dX9_covered_33 rfl rfl ?_
  refine G_getR (j := 17) dX9_covered_34 fX9_40 rfl rfl ?_
  refine G_aload_n dX9_covered_37 rfl rfl ?_
  refine G_getR (j := 1) dX9_covered_38 fX9_12 rfl rfl ?_
  refine G_callVv (ν := uX5_cover) (As := [.inr 1]) dX9_covered_41 nX9_251 kX5_cover rfl rfl rfl rfl rfl (Nat.le_of_ble_eq_true rfl) (c_cover hSa hk.1.2 hk.2.1.2 (by omega) (hga 0 (by decide)) (hga 1 (by decide)) (hga 3 (by decide)) hk.2.2.2.1) ?_
  rintro _ Mb ⟨b, eb, hb⟩
  have hFb : FRA M Mb := FRA_t hFa (by subst eb; exact fun q hq => mo_q (by omega))
  have hgb := hC_A hg hFb
  have hbb : ∀ q, q < 48 → Mb 30 q = bI (cvG g f q) := fun q hq => by rw [eb, mo_o]; exact hb q hq
  refine G_iload_n dX9_covered_44 rfl rfl ?_
  refine G_iconst (v := (nI 4)) dX9_covered_45 (by decide) ?_
  refine Gn_icmp_ne (tgt := 57) dX9_covered_46 (by decide) (by omega) (by omega) (fun h46 => ?_) (fun h46 => ?_)
  · refine G_aload_n dX9_covered_57 rfl rfl ?_
    refine G_getR (j := 17) dX9_covered_58 fX9_40 rfl rfl ?_
    refine G_aload_n dX9_covered_61 rfl rfl ?_
    refine G_getR (j := 1) dX9_covered_62 fX9_12 rfl rfl ?_
    refine G_iconst (v := (nI 0)) dX9_covered_65 (by decide) ?_
    refine G_callVi (ν := uX5_coveredOf) (As := [.inr 1, .inl (nI 0)]) dX9_covered_66 nX9_257 kX5_coveredOf rfl rfl rfl rfl rfl (Nat.le_of_ble_eq_true rfl) (c_covOf (c := 0) hbb hgb (gok_9 hk) (by omega)) ?_
    rintro _ M8 ⟨rfl, e9⟩
    subst M8
    rw [show fb_ct (fun q => cvG g f q && decide (g (12 + q) = 0)) 48 = cvN g f 0 from rfl]
    refine G_istore (L2 := [some (.inr 0), some (.inl (nI f)), some (.inl (nI 5)), some (.inl (nI (col g f))), some (.inl (nI (cvN g f 0)))]) dX9_covered_69 (Nat.le_of_ble_eq_true rfl) rfl ?_
    refine G_iload_n dX9_covered_71 rfl rfl ?_
    refine G_bipush (v := (nI 6)) dX9_covered_72 (by decide) ?_
    refine Gn_icmp_ne (tgt := 82) dX9_covered_74 (by decide) (by omega) (by omega) (fun h74 => ?_) (fun h74 => ?_)
    · refine G_aload_n dX9_covered_82 rfl rfl ?_
      refine G_getR (j := 17) dX9_covered_83 fX9_40 rfl rfl ?_
      refine G_callVi (ν := uX5_coveredCells) (As := []) dX9_covered_86 nX9_254 kX5_coveredCells rfl rfl rfl rfl rfl (Nat.le_of_ble_eq_true rfl) (c_covCells hbb) ?_
      rintro _ M8 ⟨rfl, e9⟩
      subst M8
      refine G_iload dX9_covered_89 rfl ?_
      refine G_isub (v := (nI (fb_ct (cvG g f) 48) - nI (cvN g f 0))) dX9_covered_91 rfl ?_
      refine G_aload_n dX9_covered_92 rfl rfl ?_
      refine G_getR (j := 17) dX9_covered_93 fX9_40 rfl rfl ?_
      refine G_aload_n dX9_covered_96 rfl rfl ?_
      refine G_getR (j := 1) dX9_covered_97 fX9_12 rfl rfl ?_
      refine G_iload_n dX9_covered_100 rfl rfl ?_
      refine G_callVi (ν := uX5_coveredOf) (As := [.inr 1, .inl (nI (col g f))]) dX9_covered_101 nX9_257 kX5_coveredOf rfl rfl rfl rfl rfl (Nat.le_of_ble_eq_true rfl) (c_covOf (c := col g f) hbb hgb (gok_9 hk) (by omega)) ?_
      rintro _ M8 ⟨rfl, e9⟩
      subst M8
      rw [show fb_ct (fun q => cvG g f q && decide (g (12 + q) = col g f)) 48 = cvN g f (col g f) from rfl]
      refine G_isub (v := (nI (fb_ct (cvG g f) 48) - nI (cvN g f 0) - nI (cvN g f (col g f)))) dX9_covered_104 rfl ?_
      refine G_iret dX9_covered_105 rfl rfl ?_
      exact ⟨rfl, hFb⟩
    · omega
  · omega
theorem c_covered_6 {d f : Nat} {g : Nat → Nat} {M : Mem} (hg : hC g (M 2)) (hk : gok g) (hM : MPg g M) (hf : f < labN g) : Call l α D cA uX9_covered (d + 5) [.inr 0, .inl (nI f), .inl (nI 6)] M (fun r M1 => r = .inl (fldA g f 6) ∧ FRA M M1) := by
  refine Call.of kX9_covered.1 (Nat.le_of_ble_eq_true rfl) ?_
  have hcf := col_in hk hf
  have hw := hk.2.2.2.2.1 (col g f) (by omega)
  have hn48 := labN_48 (g := g)
  refine G_aload_n dX9_covered_0 rfl rfl ?_
  refine G_getR (j := 8) dX9_covered_1 fX9_33 rfl rfl ?_
  refine G_iload_n dX9_covered_4 rfl rfl ?_
  refine G_callVi (ν := uX1_colourOf) (As := [.inl (nI f)]) dX9_covered_5 nX9_142 kX1_colourOf rfl rfl rfl rfl rfl (Nat.le_of_ble_eq_true rfl) (c_colourOf (x := nI (col g f)) (by omega) (hM.2.2.2 f hf).1) ?_
  rintro _ M8 ⟨rfl, e9⟩
  subst M8
  refine G_istore_n (L2 := [some (.inr 0), some (.inl (nI f)), some (.inl (nI 6)), some (.inl (nI (col g f))), none]) dX9_covered_8 rfl (Nat.le_of_ble_eq_true rfl) rfl ?_
  refine G_aload_n dX9_covered_9 rfl rfl ?_
  refine G_getR (j := 17) dX9_covered_10 fX9_40 rfl rfl ?_
  refine G_aload_n dX9_covered_13 rfl rfl ?_
  refine G_getR (j := 1) dX9_covered_14 fX9_12 rfl rfl ?_
  refine G_aload_n dX9_covered_17 rfl rfl ?_
  refine G_getR (j := 8) dX9_covered_18 fX9_33 rfl rfl ?_
  refine G_iload_n dX9_covered_21 rfl rfl ?_
  refine G_aload_n dX9_covered_22 rfl rfl ?_
  refine G_getR (j := 1) dX9_covered_23 fX9_12 rfl rfl ?_
  refine G_iload_n dX9_covered_26 rfl rfl ?_
  refine G_callVi (ν := uX0_wayOf) (As := [.inl (nI (col g f))]) dX9_covered_27 nX9_248 kX0_wayOf rfl rfl rfl rfl rfl (Nat.le_of_ble_eq_true rfl) (c_wayOf (o := 1) (v := 2) rfl rfl hcf.1 hcf.2.1) ?_
  rintro _ M8 ⟨rfl, e9⟩
  subst M8
  rw [hg (4 + col g f) (by omega)]
  refine G_callVv (ν := uX5_lay) (As := [.inr 1, .inr 8, .inl (nI f), .inl (nI (g (4 + col g f)))]) dX9_covered_30 nX9_163 kX5_lay rfl rfl rfl rfl rfl (Nat.le_of_ble_eq_true rfl) (c_layG hg hk hM hf (by omega)) ?_
  rintro _ Ma ⟨hFa, hSa⟩
  have hga := hC_A hg hFa
  refine G_aload_n dX9_covered_33 rfl rfl ?_
  refine G_getR (j := 17) dX9_covered_34 fX9_40 rfl rfl ?_
  refine G_aload_n dX9_covered_37 rfl rfl ?_
  refine G_getR (j := 1) dX9_covered_38 fX9_12 rfl rfl ?_
  refine G_callVv (ν := uX5_cover) (As := [.inr 1]) dX9_covered_41 nX9_251 kX5_cover rfl rfl rfl rfl rfl (Nat.le_of_ble_eq_true rfl) (c_cover hSa hk.1.2 hk.2.1.2 (by omega) (hga 0 (by decide)) (hga 1 (by decide)) (hga 3 (by decide)) hk.2.2.2.1) ?_
  rintro _ Mb ⟨b, eb, hb⟩
  have hFb : FRA M Mb := FRA_t hFa (by subst eb; exact fun q hq => mo_q (by omega))
  have hgb := hC_A hg hFb
  have hbb : ∀ q, q < 48 → Mb 30 q = bI (cvG g f q) := fun q hq => by rw [eb, mo_o]; exact hb q hq
  refine G_iload_n dX9_covered_44 rfl rfl ?_
  refine G_iconst (v := (nI 4)) dX9_covered_45 (by decide) ?_
  refine Gn_icmp_ne (tgt := 57) dX9_covered_46 (by decide) (by omega) (by omega) (fun h46 => ?_) (fun h46 => ?_)
  · refine G_aload_n dX9_covered_57 rfl rfl ?_
    refine G_getR (j := 17) dX9_covered_58 fX9_40 rfl rfl ?_
    refine G_aload_n dX9_covered_61 rfl rfl ?_
    refine G_getR (j := 1) dX9_covered_62 fX9_12 rfl rfl ?_
    refine G_iconst (v := (nI 0)) dX9_covered_65 (by decide) ?_
    refine G_callVi (ν := uX5_coveredOf) (As := [.inr 1, .inl (nI 0)]) dX9_covered_66 nX9_257 kX5_coveredOf rfl rfl rfl rfl rfl (Nat.le_of_ble_eq_true rfl) (c_covOf (c := 0) hbb hgb (gok_9 hk) (by omega)) ?_
    rintro _ M8 ⟨rfl, e9⟩
    subst M8
    rw [show fb_ct (fun q => cvG g f q && decide (g (12 + q) = 0)) 48 = cvN g f 0 from rfl]
    refine G_istore (L2 := [some (.inr 0), some (.inl (nI f)), some (.inl (nI 6)), some (.inl (nI (col g f))), some (.inl (nI (cvN g f 0)))]) dX9_covered_69 (Nat.le_of_ble_eq_true rfl) rfl ?_
    refine G_iload_n dX9_covered_71 rfl rfl ?_
    refine G_bipush (v := (nI 6)) dX9_covered_72 (by decide) ?_
    refine Gn_icmp_ne (tgt := 82) dX9_covered_74 (by decide) (by omega) (by omega) (fun h74 => ?_) (fun h74 => ?_)
    · omega
    · refine G_iload dX9_covered_77 rfl ?_
      refine G_goto (tgt := 105) dX9_covered_79 (by decide) ?_
      refine G_iret dX9_covered_105 rfl rfl ?_
      exact ⟨rfl, hFb⟩
  · omega
end P24
