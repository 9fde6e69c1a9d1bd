/-! The reference: rows and parts laid anew -/
section P31
variable {l : Launch} {α : Nat → Nat} {D : va_G} {cA : Nat → ClassId}
theorem plc_d {v i p : Nat} (h : if v = 0 then p < 8 else i < 8) : plc v i p % 8 = (if v = 0 then p else i) ∧ plc v i p / 8 = (if v = 0 then i else p) := by
  unfold plc
  split
  · next z => rw [if_pos z] at h; omega
  · next z => rw [if_neg z] at h; omega
theorem num_plc {g : Nat → Nat} (hk : gok g) {v i p : Nat} (hi : i < lcO v (g 0) (g 1)) (hp : p < llO v (g 0) (g 1)) : numO g (plc v i p) = (if v = 0 then g 0 * i + p else g 0 * p + i) ∧ numO g (plc v i p) < g 0 * g 1 ∧ pl (g 0) (numO g (plc v i p)) = plc v i p ∧ i < 8 ∧ p < 8 := by
  have h8 := hk.1.2
  have h6 := hk.2.1.2
  unfold lcO at hi
  unfold llO at hp
  have hd : if v = 0 then p < 8 else i < 8 := by split <;> simp_all <;> omega
  obtain ⟨a, b⟩ := plc_d hd
  have hm : plc v i p % 8 < g 0 := by rw [a]; split <;> simp_all
  have hh : plc v i p / 8 < g 1 := by rw [b]; split <;> simp_all
  refine ⟨?_, nm_lt hm hh, pl_nm hm, ?_, ?_⟩
  · unfold numO
    rw [a, b]
    split <;> rfl
  · split at hi <;> omega
  · split at hp <;> omega
def FT (M M1 : Mem) : Prop := (∀ q, q ≠ 50 → (q < 59 ∨ 70 < q) → M1 q = M q) ∧ ∀ j, j ≠ 17 → j ≠ 25 → j ≠ 29 → M1 50 j = M 50 j
theorem FT_r {M : Mem} : FT M M := ⟨fun _ _ _ => rfl, fun _ _ _ _ => rfl⟩
theorem FT_t {M M1 M2 : Mem} (h : FT M M1) (h2 : FT M1 M2) : FT M M2 := ⟨fun q a b => (h2.1 q a b).trans (h.1 q a b), fun j a b c => (h2.2 j a b c).trans (h.2 j a b c)⟩
theorem FT_ms {M M1 : Mem} {o k : Nat} {v : Int32} (h : FT M M1) (h1 : 59 ≤ o) (h2 : o ≤ 70) : FT M (ms M1 o k v) := ⟨fun q a b => by rw [ms_q (by omega)]; exact h.1 q a b, fun j a b c => by rw [ms_q (by omega)]; exact h.2 j a b c⟩
theorem FT_f {M M1 : Mem} {k : Nat} {v : Int32} (h : FT M M1) (hk : k = 17 ∨ k = 25 ∨ k = 29) : FT M (ms M1 50 k v) := ⟨fun q a b => by rw [ms_q a]; exact h.1 q a b, fun j a b c => by rw [ms_o, upd_n (by omega)]; exact h.2 j a b c⟩
theorem FT_s {g : Nat → Nat} {M M1 : Mem} (h : FT M M1) (hs : hS g (M 51)) : hS g (M1 51) := by rw [h.1 51 (by decide) (by decide)]; exact hs
theorem FT_O {g : Nat → Nat} {M M1 : Mem} (h : FT M M1) (hO : FOg g M) : FOg g M1 := by
  unfold FOg
  rw [h.1 58 (by decide) (by decide), h.2 16 (by decide) (by decide) (by decide)]
  exact hO
def RWm (s : RS) (M : Mem) : Prop := M 50 17 = nI s.1 ∧ ∀ r, r < s.1 → M 59 r = nI (s.2.1 r) ∧ M 60 r = nI (s.2.2.1 r) ∧ M 61 r = nI (s.2.2.2 r)
theorem RWm_was {p : Nat} {s : RS} {M : Mem} (h : RWm s M) : RWm (s.1, s.2.1, s.2.2.1, updN s.2.2.2 (s.1 - 1) p) (ms M 61 (s.1 - 1) (nI p)) := by
  refine ⟨by rw [ms_q (by decide)]; exact h.1, fun r hr => ?_⟩
  have hr : r < s.1 := hr
  by_cases y : r = s.1 - 1
  · subst y
    simp [ms, upd, updN_k]
    have := h.2 _ hr
    exact ⟨this.1, this.2.1⟩
  · simp [ms, upd, y, updN_n y]
    exact h.2 r hr
theorem RWm_new {i p : Nat} {s : RS} {M : Mem} (h : RWm s M) : RWm (s.1 + 1, updN s.2.1 s.1 i, updN s.2.2.1 s.1 p, updN s.2.2.2 s.1 p) (ms (ms (ms (ms M 59 s.1 (nI i)) 60 s.1 (nI p)) 50 17 (nI (s.1 + 1))) 61 s.1 (nI p)) := by
  refine ⟨by simp [ms, upd], fun r hr => ?_⟩
  have hr : r < s.1 + 1 := hr
  by_cases y : r = s.1
  · subst y
    simp [ms, upd, updN_k]
  · simp [ms, upd, y, updN_n y]
    exact h.2 r (by omega)
theorem cF_iff {g : Nat → Nat} {v f i p : Nat} (hf : f < labN g) : oI (labF g (plc v i p)) = nI f ↔ cF (labF g) v f i p = true := by
  unfold cF
  rw [decide_eq_true_eq]
  have hn := labN_48 (g := g)
  constructor
  · intro h
    exact oI_some (fun x z => labF_lt _ _ z) (hf := by omega) h
  · intro h
    rw [h]; rfl
/-- rows that follow: counted over the pairs P -/
def NS (s : RS) (P : Nat → Nat → Prop) (M : Mem) : Prop := ∀ r, r < s.1 → M 62 r = nI (fb_ct (fun q => dec (NX s q r ∧ P r q)) s.1) ∧ M 64 r = nI (fb_ct (fun b => dec (NX s r b ∧ P b r)) s.1) ∧ ∀ q, q < s.1 → NX s q r → P r q → (∀ q', q < q' → q' < s.1 → P r q' → ¬ NX s q' r) → M 63 r = nI q
theorem NS_same {s : RS} {P P' : Nat → Nat → Prop} {M : Mem} (h : NS s P M) (hP : ∀ r q, r < s.1 → q < s.1 → NX s q r → (P r q ↔ P' r q)) : NS s P' M := by
  intro r hr
  obtain ⟨h1, h2, h3⟩ := h r hr
  refine ⟨?_, ?_, fun q hq hn hp hl => h3 q hq hn ((hP r q hr hq hn).mpr hp) (fun q' a b c d => hl q' a b ((hP r q' hr b d).mp c) d)⟩
  · rw [h1]
    exact congrArg nI (fb_ct_cong (fun q hq => dec_eq ⟨fun ⟨a, b⟩ => ⟨a, (hP r q hr hq a).mp b⟩, fun ⟨a, b⟩ => ⟨a, (hP r q hr hq a).mpr b⟩⟩))
  · rw [h2]
    exact congrArg nI (fb_ct_cong (fun b hb => dec_eq ⟨fun ⟨x, y⟩ => ⟨x, (hP b r hb hr x).mp y⟩, fun ⟨x, y⟩ => ⟨x, (hP b r hb hr x).mpr y⟩⟩))
theorem ct_flip {p p' : Nat → Bool} {i n : Nat} (hi : i < n) (h0 : p i = false) (h1 : p' i = true) (h : ∀ k, k ≠ i → p' k = p k) : fb_ct p' n = fb_ct p n + 1 := by
  have k := fb_ct_upd p true hi
  rw [h0] at k
  simp only [Bool.false_eq_true, if_false, if_true] at k
  have e : (fun k => if k = i then true else p k) = p' := by
    funext k
    by_cases z : k = i
    · rw [if_pos z, z, h1]
    · rw [if_neg z, h k z]
  rw [e] at k
  omega
theorem NS_add {s : RS} {P : Nat → Nat → Prop} {M : Mem} {r q : Nat} (h : NS s P M) (hn : NX s q r) (hP : ¬ P r q) (hl : ∀ q', P r q' → q' < q) (hr : r < s.1) (hq : q < s.1) {a b : Nat} (ha : a = fb_ct (fun q => dec (NX s q r ∧ P r q)) s.1) (hb : b = fb_ct (fun b => dec (NX s q b ∧ P b q)) s.1) : NS s (fun x y => P x y ∨ (x = r ∧ y = q)) (ms (ms (ms M 62 r (nI (a + 1))) 63 r (nI q)) 64 q (nI (b + 1))) := by
  intro x hx
  obtain ⟨h1, h2, h3⟩ := h x hx
  refine ⟨?_, ?_, fun y hy hn2 hp2 hl2 => ?_⟩
  · simp only [ms]
    simp
    by_cases e : x = r
    · subst e
      rw [upd_k, ha]
      refine congrArg nI (ct_flip (i := q) hq (dec_f (fun z => hP z.2)) (dec_t ⟨hn, Or.inr ⟨rfl, rfl⟩⟩) (fun k hk => dec_eq ⟨fun z => ⟨z.1, z.2.elim id (fun y => absurd y.2 hk)⟩, fun z => ⟨z.1, Or.inl z.2⟩⟩)).symm
    · rw [upd_n e, h1]
      exact congrArg nI (fb_ct_cong (fun k _ => dec_eq ⟨fun z => ⟨z.1, Or.inl z.2⟩, fun z => ⟨z.1, z.2.elim id (fun y => absurd y.1 e)⟩⟩))
  · simp only [ms]
    simp
    by_cases e : x = q
    · subst e
      rw [upd_k, hb]
      refine congrArg nI (ct_flip (i := r) hr (dec_f (fun z => hP z.2)) (dec_t ⟨hn, Or.inr ⟨rfl, rfl⟩⟩) (fun k hk => dec_eq ⟨fun z => ⟨z.1, z.2.elim id (fun y => absurd y.1 hk)⟩, fun z => ⟨z.1, Or.inl z.2⟩⟩)).symm
    · rw [upd_n e, h2]
      exact congrArg nI (fb_ct_cong (fun k _ => dec_eq ⟨fun z => ⟨z.1, Or.inl z.2⟩, fun z => ⟨z.1, z.2.elim id (fun y => absurd y.2 e)⟩⟩))
  · simp only [ms]
    simp
    by_cases e : x = r
    · subst e
      rw [upd_k]
      rcases hp2 with hp2 | ⟨-, hp2⟩
      · exact absurd hn (hl2 q (hl y hp2) hq (Or.inr ⟨rfl, rfl⟩))
      · rw [hp2]
    · rw [upd_n e]
      exact h3 y hy hn2 (hp2.elim id (fun z => absurd z.1 e)) (fun q' u v w => hl2 q' u v (Or.inl w))
def prc (r q a b : Nat) : Prop := a < r ∨ (a = r ∧ b < q)
def FN (M M1 : Mem) : Prop := ∀ q, (q < 62 ∨ 64 < q) → M1 q = M q
theorem FN_T {M M1 : Mem} (h : FN M M1) : FT M M1 := ⟨fun q a b => h q (by omega), fun j _ _ _ => by rw [h 50 (by decide)]⟩
theorem RWm_N {s : RS} {M M1 : Mem} (h : RWm s M) (hF : FN M M1) : RWm s M1 := by
  unfold RWm
  rw [hF 50 (by decide), hF 59 (by decide), hF 60 (by decide), hF 61 (by decide)]
  exact h
/-- a count of one -/
theorem ct_one {P : Nat → Bool} {n : Nat} : fb_ct P n = 1 ↔ ∃ i, i < n ∧ P i = true ∧ ∀ j, j < n → P j = true → j = i := by
  constructor
  · intro h
    obtain ⟨i, hi, hp⟩ := fb_ct_pos.mp (show 0 < fb_ct P n by omega)
    have key : ∀ i j, i < j → j < n → P i = true → P j = true → False := fun i j hij hj p1 p2 => by
      have a := ct_s1 p1
      have b := ct_s1 p2
      have c := fb_ct_mono P (show i + 1 ≤ j by omega)
      have e := fb_ct_mono P (show j + 1 ≤ n by omega)
      omega
    refine ⟨i, hi, hp, fun j hj pj => ?_⟩
    rcases Nat.lt_trichotomy i j with z | z | z
    · exact (key i j z hj hp pj).elim
    · exact z.symm
    · exact (key j i z hi pj hp).elim
  · rintro ⟨i, hi, hp, hu⟩
    exact ct_enum 1 (fun _ => i) P (fun _ _ => ⟨hi, hp⟩) (fun j k hj hk _ => by omega) (fun q hq hpq => ⟨0, by decide, (hu q hq hpq).symm⟩)
/-- what row r is followed by without a break -/
theorem CN_ct {s : RS} {q r : Nat} (hq : q < s.1) (hr : r < s.1) : CN s q r ↔ NX s q r ∧ fb_ct (fun x => dec (NX s x r)) s.1 = 1 ∧ fb_ct (fun b => dec (NX s q b)) s.1 = 1 := by
  rw [ct_one, ct_one]
  constructor
  · rintro ⟨h1, h2, h3⟩
    exact ⟨h1, ⟨q, hq, dec_t h1, fun j hj h => h3 j hj (dec_iff.mp h)⟩, ⟨r, hr, dec_t h1, fun j hj h => h2 j hj (dec_iff.mp h)⟩⟩
  · rintro ⟨h1, ⟨i, hi, hp, hu⟩, ⟨j, hj, hp2, hu2⟩⟩
    exact ⟨h1, fun b hb h => (hu2 b hb (dec_t h)).trans (hu2 r hr (dec_t h1)).symm, fun x hx h => (hu x hx (dec_t h)).trans (hu q hq (dec_t h1)).symm⟩
def NSa (s : RS) (M : Mem) : Prop := NS s (fun _ _ => True) M
theorem NSa_ct {s : RS} {M : Mem} (h : NSa s M) {r : Nat} (hr : r < s.1) : M 62 r = nI (fb_ct (fun q => dec (NX s q r)) s.1) ∧ M 64 r = nI (fb_ct (fun b => dec (NX s r b)) s.1) := by
  obtain ⟨h1, h2, -⟩ := h r hr
  exact ⟨by rw [h1]; exact congrArg nI (fb_ct_cong (fun _ _ => dec_eq ⟨And.left, fun z => ⟨z, trivial⟩⟩)), by rw [h2]; exact congrArg nI (fb_ct_cong (fun _ _ => dec_eq ⟨And.left, fun z => ⟨z, trivial⟩⟩))⟩
/-- the parts laid over the first k rows -/
def PRm (k : Nat) (s : PS) (M : Mem) : Prop := M 50 25 = nI s.1 ∧ (∀ r, r < k → M 65 r = nI (s.2.1 r)) ∧ ∀ p, p < s.1 → M 67 p = nI (s.2.2.1 p) ∧ M 68 p = nI (s.2.2.2.1 p) ∧ M 66 p = nI (s.2.2.2.2 p)
/-- the part foreseen for row q, after r rows -/
noncomputable def fore (s : RS) (r : Nat) (ps : PS) (q : Nat) : Option Nat := match prd s q with
  | some b => if b < r then some (ps.2.1 b) else none
  | none => none
def FPm (M M1 : Mem) : Prop := (∀ q, q ≠ 50 → (q < 65 ∨ 68 < q) → M1 q = M q) ∧ ∀ j, j ≠ 25 → M1 50 j = M 50 j
theorem FPm_T {M M1 : Mem} (h : FPm M M1) : FT M M1 := ⟨fun q a b => h.1 q a (by omega), fun j _ a _ => h.2 j a⟩
theorem RWm_P {s : RS} {M M1 : Mem} (h : RWm s M) (hF : FPm M M1) : RWm s M1 := by
  unfold RWm
  rw [hF.2 17 (by decide), hF.1 59 (by decide) (by decide), hF.1 60 (by decide) (by decide), hF.1 61 (by decide) (by decide)]
  exact h
theorem FPm_ms {M M1 : Mem} {o k : Nat} {v : Int32} (h : FPm M M1) (h1 : 65 ≤ o) (h2 : o ≤ 68) : FPm M (ms M1 o k v) := ⟨fun q a b => by rw [ms_q (by omega)]; exact h.1 q a b, fun j a => by rw [ms_q (by omega)]; exact h.2 j a⟩
theorem FPm_f {M M1 : Mem} {v : Int32} (h : FPm M M1) : FPm M (ms M1 50 25 v) := ⟨fun q a b => by rw [ms_q a]; exact h.1 q a b, fun j a => by rw [ms_o, upd_n a]; exact h.2 j a⟩
def SWm (g : Nat → Nat) (v f : Nat) (M : Mem) : Prop := M 50 29 = nI v ∧ RWm (rwG g v f) M ∧ PRm (rwG g v f).1 (psS (rwG g v f)) M
theorem y_cellAt {d v i p : Nat} {g : Nat → Nat} {M : Mem} (hs : hS g (M 51)) (hk : gok g) (hv : M 50 29 = nI v) (v2 : v < 2) (hi : i < lcO v (g 0) (g 1)) (hp : p < llO v (g 0) (g 1)) : Call l α D cA uX10_cellAt d [.inr 50, .inl (nI i), .inl (nI p)] M (fun r M1 => r = .inl (nI (numO g (plc v i p))) ∧ M1 = M) := by
  refine Call.of kX10_cellAt.1 (Nat.le_of_ble_eq_true rfl) ?_
  have hn := (num_plc hk hi hp).1
  refine G_aload_n dX10_cellAt_0 rfl rfl ?_
  refine G_getI (v := (nI v)) dX10_cellAt_1 fX10_169 rfl rfl hv ?_
  refine Gn_if_ne (tgt := 20) dX10_cellAt_4 (by decide) (by omega) (fun h4 => ?_) (fun h4 => ?_)
  · refine G_aload_n dX10_cellAt_20 rfl rfl ?_
    refine G_getR (j := 51) dX10_cellAt_21 fX10_7 rfl rfl ?_
    refine G_iconst (v := (nI 0)) dX10_cellAt_24 (by decide) ?_
    refine G_iald (k := 0) (v := (nI (g 0))) dX10_cellAt_25 rfl (vp_in_nI (by decide) (by decide)) rfl (hs.1 0 (by decide)) ?_
    refine G_iload_n dX10_cellAt_26 rfl rfl ?_
    refine G_imul (v := (nI ((g 0) * p))) dX10_cellAt_27 (pk_mul _ _) ?_
    refine G_iload_n dX10_cellAt_28 rfl rfl ?_
    refine G_iadd (v := (nI (((g 0) * p) + i))) dX10_cellAt_29 (nI_add _ _) ?_
    refine G_iret dX10_cellAt_30 rfl rfl ?_
    exact ⟨by rw [hn, if_neg h4], rfl⟩
  · refine G_aload_n dX10_cellAt_7 rfl rfl ?_
    refine G_getR (j := 51) dX10_cellAt_8 fX10_7 rfl rfl ?_
    refine G_iconst (v := (nI 0)) dX10_cellAt_11 (by decide) ?_
    refine G_iald (k := 0) (v := (nI (g 0))) dX10_cellAt_12 rfl (vp_in_nI (by decide) (by decide)) rfl (hs.1 0 (by decide)) ?_
    refine G_iload_n dX10_cellAt_13 rfl rfl ?_
    refine G_imul (v := (nI ((g 0) * i))) dX10_cellAt_14 (pk_mul _ _) ?_
    refine G_iload_n dX10_cellAt_15 rfl rfl ?_
    refine G_iadd (v := (nI (((g 0) * i) + p))) dX10_cellAt_16 (nI_add _ _) ?_
    refine G_goto (tgt := 30) dX10_cellAt_17 (by decide) ?_
    refine G_iret dX10_cellAt_30 rfl rfl ?_
    exact ⟨by rw [hn, if_pos h4], rfl⟩
theorem ly_rowI {d v f : Nat} {g : Nat → Nat} {M : Mem} (hs : hS g (M 51)) (hk : gok g) (hO : FOg g M) (v2 : v < 2) (hf : f < labN g) {i : Nat} {Q : AV → Mem → Prop} (hi : i < lcO v (g 0) (g 1)) (out : ∀ (M1 : Mem) (x6 x7 : Option AV), FT M M1 → M1 50 29 = nI v → RWm (rowP (cF (labF g) v f i) i (llO v (g 0) (g 1)) (rowA (cF (labF g) v f) (llO v (g 0) (g 1)) i)) M1 → G l α D cA uX10_laysRows none (d + 1) Q 174 [some (.inr 50), some (.inl (nI f)), some (.inl (nI v)), some (.inl (nI (lcO v (g 0) (g 1)))), some (.inl (nI (llO v (g 0) (g 1)))), some (.inl (nI i)), x6, x7] [] M1) : ∀ (k p : Nat) (s : RS) (M1 : Mem) (x7 : Option AV), llO v (g 0) (g 1) - p = k → p ≤ llO v (g 0) (g 1) → rowP (cF (labF g) v f i) i p (rowA (cF (labF g) v f) (llO v (g 0) (g 1)) i) = s → FT M M1 → M1 50 29 = nI v → RWm s M1 → G l α D cA uX10_laysRows none (d + 1) Q 63 [some (.inr 50), some (.inl (nI f)), some (.inl (nI v)), some (.inl (nI (lcO v (g 0) (g 1)))), some (.inl (nI (llO v (g 0) (g 1)))), some (.inl (nI i)), some (.inl (nI p)), x7] [] M1 := by
  intro k
  induction k using Nat.strongRecOn with
  | _ k ih => ?_
  intro p s M1 x7 hkk hp hs1 hF hv hR
  have hI : RI (cF (labF g) v f) (llO v (g 0) (g 1)) i p s := by rw [← hs1]; exact RI_P (RI_A i) p hp
  have hll : llO v (g 0) (g 1) ≤ 8 := by have := hk.1.2; have := hk.2.1.2; unfold llO; split <;> omega
  refine G_iload dX10_laysRows_63 rfl ?_
  refine G_iload dX10_laysRows_65 rfl ?_
  refine Gn_icmp_ge (tgt := 174) dX10_laysRows_67 (by decide) (by omega) (by omega) (fun h67 => ?_) (fun h67 => ?_)
  · have e : p = llO v (g 0) (g 1) := by omega
    subst e
    exact out M1 _ _ hF hv (by rw [hs1]; exact hR)
  · have hin := ll_in (w := v) hk.1.2 hk.2.1.2 hi (show p < llO v (g 0) (g 1) by omega)
    have hnb : s.1 < 48 := Nat.lt_of_le_of_lt hI.1 hin.2.1
    have hnp := num_plc hk hi (show p < llO v (g 0) (g 1) by omega)
    have hcel := cel_48 hk
    refine G_aload_n dX10_laysRows_70 rfl rfl ?_
    refine G_getR (j := 58) dX10_laysRows_71 fX10_33 rfl rfl ?_
    refine G_aload_n dX10_laysRows_74 rfl rfl ?_
    refine G_iload dX10_laysRows_75 rfl ?_
    refine G_iload dX10_laysRows_77 rfl ?_
    refine G_callVi (ν := uX10_cellAt) (As := [.inl (nI i), .inl (nI p)]) dX10_laysRows_79 nX10_175 kX10_cellAt rfl rfl rfl rfl rfl (Nat.le_of_ble_eq_true rfl) (y_cellAt (FT_s hF hs) hk hv v2 hi (by omega)) ?_
    rintro _ M8 ⟨rfl, e9⟩
    subst M8
    refine G_iald (k := numO g (plc v i p)) (v := (oI (labF g (plc v i p)))) dX10_laysRows_82 rfl (vp_in_nI (by omega) (by omega)) (nI_clamp (by omega)) (by rw [(FT_O hF hO).1 _ hnp.2.1, hnp.2.2.1]) ?_
    refine G_iload_n dX10_laysRows_83 rfl rfl ?_
    refine G_icmp_ne (tgt := 168) dX10_laysRows_84 (by decide) (fun h84 => ?_) (fun h84 => ?_)
    · have hc0 : cF (labF g) v f i p = false := Bool.eq_false_iff.mpr (fun q => h84 ((cF_iff hf).mpr q))
      refine G_iinc (v := (nI (p + 1))) (L2 := [some (.inr 50), some (.inl (nI f)), some (.inl (nI v)), some (.inl (nI (lcO v (g 0) (g 1)))), some (.inl (nI (llO v (g 0) (g 1)))), some (.inl (nI i)), some (.inl (nI (p + 1))), x7]) dX10_laysRows_168 rfl (nI_1 _) rfl ?_
      refine G_goto (tgt := 63) dX10_laysRows_171 (by decide) ?_
      exact ih (llO v (g 0) (g 1) - (p + 1)) (by omega) (p + 1) s M1 _ rfl (by omega) (by rw [rowP, hs1, hc0]; rfl) hF hv hR
    · have hc1 : cF (labF g) v f i p = true := (cF_iff hf).mp (by assumption)
      refine G_iload dX10_laysRows_87 rfl ?_
      refine Gn_if_le (tgt := 115) dX10_laysRows_89 (by decide) (by omega) (fun h89 => ?_) (fun h89 => ?_)
      · refine G_iconst (v := (nI 0)) dX10_laysRows_115 (by decide) ?_
        refine G_istore (L2 := [some (.inr 50), some (.inl (nI f)), some (.inl (nI v)), some (.inl (nI (lcO v (g 0) (g 1)))), some (.inl (nI (llO v (g 0) (g 1)))), some (.inl (nI i)), some (.inl (nI p)), some (.inl (nI 0))]) dX10_laysRows_116 (Nat.le_of_ble_eq_true rfl) rfl ?_
        have hw0 : wasC (cF (labF g) v f i) p = false := by
          unfold wasC
          rw [decide_eq_false (by omega)]
          rfl
        refine G_iload dX10_laysRows_118 rfl ?_
        refine Gn_if_ne (tgt := 155) dX10_laysRows_120 (by decide) (by omega) (fun h120 => ?_) (fun h120 => ?_)
        · omega
        · refine G_aload_n dX10_laysRows_123 rfl rfl ?_
          refine G_getR (j := 59) dX10_laysRows_124 fX10_36 rfl rfl ?_
          refine G_aload_n dX10_laysRows_127 rfl rfl ?_
          refine G_getI (v := (nI (s.1))) dX10_laysRows_128 fX10_172 rfl rfl hR.1 ?_
          refine G_iload dX10_laysRows_131 rfl ?_
          refine G_iast (k := s.1) (v := (nI i)) dX10_laysRows_133 rfl (vp_in_nI (by omega) (by omega)) (nI_clamp (by omega)) rfl ?_
          refine G_aload_n dX10_laysRows_134 rfl rfl ?_
          refine G_getR (j := 60) dX10_laysRows_135 fX10_39 rfl rfl ?_
          refine G_aload_n dX10_laysRows_138 rfl rfl ?_
          refine G_getI (v := (nI (s.1))) dX10_laysRows_139 fX10_172 rfl rfl (by simp [ms]; exact hR.1) ?_
          refine G_iload dX10_laysRows_142 rfl ?_
          refine G_iast (k := s.1) (v := (nI p)) dX10_laysRows_144 rfl (vp_in_nI (by omega) (by omega)) (nI_clamp (by omega)) rfl ?_
          refine G_aload_n dX10_laysRows_145 rfl rfl ?_
          refine G_dup dX10_laysRows_146 ?_
          refine G_getI (v := (nI (s.1))) dX10_laysRows_147 fX10_172 rfl rfl (by simp [ms]; exact hR.1) ?_
          refine G_iconst (v := (nI 1)) dX10_laysRows_150 (by decide) ?_
          refine G_iadd (v := (nI ((s.1) + 1))) dX10_laysRows_151 (nI_add _ _) ?_
          refine G_put dX10_laysRows_152 pX10_172 rfl rfl ?_
          refine G_aload_n dX10_laysRows_155 rfl rfl ?_
          refine G_getR (j := 61) dX10_laysRows_156 fX10_42 rfl rfl ?_
          refine G_aload_n dX10_laysRows_159 rfl rfl ?_
          refine G_getI (v := (nI (s.1 + 1))) dX10_laysRows_160 fX10_172 rfl rfl (by simp [ms, upd]) ?_
          refine G_iconst (v := (nI 1)) dX10_laysRows_163 (by decide) ?_
          refine G_isub (v := (nI (s.1))) dX10_laysRows_164 (pk_sub (by omega)) ?_
          refine G_iload dX10_laysRows_165 rfl ?_
          refine G_iast (k := s.1) (v := (nI p)) dX10_laysRows_167 rfl (vp_in_nI (by omega) (by omega)) (nI_clamp (by omega)) rfl ?_
          refine G_iinc (v := (nI (p + 1))) (L2 := [some (.inr 50), some (.inl (nI f)), some (.inl (nI v)), some (.inl (nI (lcO v (g 0) (g 1)))), some (.inl (nI (llO v (g 0) (g 1)))), some (.inl (nI i)), some (.inl (nI (p + 1))), some (.inl (nI 0))]) dX10_laysRows_168 rfl (nI_1 _) rfl ?_
          refine G_goto (tgt := 63) dX10_laysRows_171 (by decide) ?_
          exact ih (llO v (g 0) (g 1) - (p + 1)) (by omega) (p + 1) _ _ _ rfl (by omega) (by rw [rowP, hs1, hc1, hw0]; rfl) (FT_ms (FT_f (FT_ms (FT_ms hF (by decide) (by decide)) (by decide) (by decide)) (Or.inl rfl)) (by decide) (by decide)) (by rw [ms_q (by decide), ms_o, upd_n (by decide), ms_q (by decide), ms_q (by decide)]; exact hv) (RWm_new hR)
      · have hnq := num_plc hk hi (show p - 1 < llO v (g 0) (g 1) by omega)
        refine G_aload_n dX10_laysRows_92 rfl rfl ?_
        refine G_getR (j := 58) dX10_laysRows_93 fX10_33 rfl rfl ?_
        refine G_aload_n dX10_laysRows_96 rfl rfl ?_
        refine G_iload dX10_laysRows_97 rfl ?_
        refine G_iload dX10_laysRows_99 rfl ?_
        refine G_iconst (v := (nI 1)) dX10_laysRows_101 (by decide) ?_
        refine G_isub (v := (nI (p - 1))) dX10_laysRows_102 (pk_sub (by omega)) ?_
        refine G_callVi (ν := uX10_cellAt) (As := [.inl (nI i), .inl (nI (p - 1))]) dX10_laysRows_103 nX10_175 kX10_cellAt rfl rfl rfl rfl rfl (Nat.le_of_ble_eq_true rfl) (y_cellAt (FT_s hF hs) hk hv v2 hi (by omega)) ?_
        rintro _ M8 ⟨rfl, e9⟩
        subst M8
        refine G_iald (k := numO g (plc v i (p - 1))) (v := (oI (labF g (plc v i (p - 1))))) dX10_laysRows_106 rfl (vp_in_nI (by omega) (by omega)) (nI_clamp (by omega)) (by rw [(FT_O hF hO).1 _ hnq.2.1, hnq.2.2.1]) ?_
        refine G_iload_n dX10_laysRows_107 rfl rfl ?_
        refine G_icmp_ne (tgt := 115) dX10_laysRows_108 (by decide) (fun h108 => ?_) (fun h108 => ?_)
        · refine G_iconst (v := (nI 0)) dX10_laysRows_115 (by decide) ?_
          refine G_istore (L2 := [some (.inr 50), some (.inl (nI f)), some (.inl (nI v)), some (.inl (nI (lcO v (g 0) (g 1)))), some (.inl (nI (llO v (g 0) (g 1)))), some (.inl (nI i)), some (.inl (nI p)), some (.inl (nI 0))]) dX10_laysRows_116 (Nat.le_of_ble_eq_true rfl) rfl ?_
          have hw0 : wasC (cF (labF g) v f i) p = false := by
            unfold wasC
            rw [Bool.eq_false_iff.mpr (fun q => h108 ((cF_iff hf).mpr q)), Bool.and_false]
          refine G_iload dX10_laysRows_118 rfl ?_
          refine Gn_if_ne (tgt := 155) dX10_laysRows_120 (by decide) (by omega) (fun h120 => ?_) (fun h120 => ?_)
          · omega
          · refine G_aload_n dX10_laysRows_123 rfl rfl ?_
            refine G_getR (j := 59) dX10_laysRows_124 fX10_36 rfl rfl ?_
            refine G_aload_n dX10_laysRows_127 rfl rfl ?_
            refine G_getI (v := (nI (s.1))) dX10_laysRows_128 fX10_172 rfl rfl hR.1 ?_
            refine G_iload dX10_laysRows_131 rfl ?_
            refine G_iast (k := s.1) (v := (nI i)) dX10_laysRows_133 rfl (vp_in_nI (by omega) (by omega)) (nI_clamp (by omega)) rfl ?_
            refine G_aload_n dX10_laysRows_134 rfl rfl ?_
            refine G_getR (j := 60) dX10_laysRows_135 fX10_39 rfl rfl ?_
            refine G_aload_n dX10_laysRows_138 rfl rfl ?_
            refine G_getI (v := (nI (s.1))) dX10_laysRows_139 fX10_172 rfl rfl (by simp [ms]; exact hR.1) ?_
            refine G_iload dX10_laysRows_142 rfl ?_
            refine G_iast (k := s.1) (v := (nI p)) dX10_laysRows_144 rfl (vp_in_nI (by omega) (by omega)) (nI_clamp (by omega)) rfl ?_
            refine G_aload_n dX10_laysRows_145 rfl rfl ?_
            refine G_dup dX10_laysRows_146 ?_
            refine G_getI (v := (nI (s.1))) dX10_laysRows_147 fX10_172 rfl rfl (by simp [ms]; exact hR.1) ?_
            refine G_iconst (v := (nI 1)) dX10_laysRows_150 (by decide) ?_
            refine G_iadd (v := (nI ((s.1) + 1))) dX10_laysRows_151 (nI_add _ _) ?_
            refine G_put dX10_laysRows_152 pX10_172 rfl rfl ?_
            refine G_aload_n dX10_laysRows_155 rfl rfl ?_
            refine G_getR (j := 61) dX10_laysRows_156 fX10_42 rfl rfl ?_
            refine G_aload_n dX10_laysRows_159 rfl rfl ?_
            refine G_getI (v := (nI (s.1 + 1))) dX10_laysRows_160 fX10_172 rfl rfl (by simp [ms, upd]) ?_
            refine G_iconst (v := (nI 1)) dX10_laysRows_163 (by decide) ?_
            refine G_isub (v := (nI (s.1))) dX10_laysRows_164 (pk_sub (by omega)) ?_
            refine G_iload dX10_laysRows_165 rfl ?_
            refine G_iast (k := s.1) (v := (nI p)) dX10_laysRows_167 rfl (vp_in_nI (by omega) (by omega)) (nI_clamp (by omega)) rfl ?_
            refine G_iinc (v := (nI (p + 1))) (L2 := [some (.inr 50), some (.inl (nI f)), some (.inl (nI v)), some (.inl (nI (lcO v (g 0) (g 1)))), some (.inl (nI (llO v (g 0) (g 1)))), some (.inl (nI i)), some (.inl (nI (p + 1))), some (.inl (nI 0))]) dX10_laysRows_168 rfl (nI_1 _) rfl ?_
            refine G_goto (tgt := 63) dX10_laysRows_171 (by decide) ?_
            exact ih (llO v (g 0) (g 1) - (p + 1)) (by omega) (p + 1) _ _ _ rfl (by omega) (by rw [rowP, hs1, hc1, hw0]; rfl) (FT_ms (FT_f (FT_ms (FT_ms hF (by decide) (by decide)) (by decide) (by decide)) (Or.inl rfl)) (by decide) (by decide)) (by rw [ms_q (by decide), ms_o, upd_n (by decide), ms_q (by decide), ms_q (by decide)]; exact hv) (RWm_new hR)
        · refine G_iconst (v := (nI 1)) dX10_laysRows_111 (by decide) ?_
          refine G_goto (tgt := 116) dX10_laysRows_112 (by decide) ?_
          refine G_istore (L2 := [some (.inr 50), some (.inl (nI f)), some (.inl (nI v)), some (.inl (nI (lcO v (g 0) (g 1)))), some (.inl (nI (llO v (g 0) (g 1)))), some (.inl (nI i)), some (.inl (nI p)), some (.inl (nI 1))]) dX10_laysRows_116 (Nat.le_of_ble_eq_true rfl) rfl ?_
          have hw1 : wasC (cF (labF g) v f i) p = true := by
            unfold wasC
            rw [decide_eq_true h89, (cF_iff hf).mp h108]
            rfl
          obtain ⟨hz1, hz2⟩ := hI.2.2.2 hw1
          refine G_iload dX10_laysRows_118 rfl ?_
          refine Gn_if_ne (tgt := 155) dX10_laysRows_120 (by decide) (by omega) (fun h120 => ?_) (fun h120 => ?_)
          · refine G_aload_n dX10_laysRows_155 rfl rfl ?_
            refine G_getR (j := 61) dX10_laysRows_156 fX10_42 rfl rfl ?_
            refine G_aload_n dX10_laysRows_159 rfl rfl ?_
            refine G_getI (v := (nI (s.1))) dX10_laysRows_160 fX10_172 rfl rfl hR.1 ?_
            refine G_iconst (v := (nI 1)) dX10_laysRows_163 (by decide) ?_
            refine G_isub (v := (nI (s.1 - 1))) dX10_laysRows_164 (pk_sub (by omega)) ?_
            refine G_iload dX10_laysRows_165 rfl ?_
            refine G_iast (k := s.1 - 1) (v := (nI p)) dX10_laysRows_167 rfl (vp_in_nI (by omega) (by omega)) (nI_clamp (by omega)) rfl ?_
            refine G_iinc (v := (nI (p + 1))) (L2 := [some (.inr 50), some (.inl (nI f)), some (.inl (nI v)), some (.inl (nI (lcO v (g 0) (g 1)))), some (.inl (nI (llO v (g 0) (g 1)))), some (.inl (nI i)), some (.inl (nI (p + 1))), some (.inl (nI 1))]) dX10_laysRows_168 rfl (nI_1 _) rfl ?_
            refine G_goto (tgt := 63) dX10_laysRows_171 (by decide) ?_
            exact ih (llO v (g 0) (g 1) - (p + 1)) (by omega) (p + 1) _ _ _ rfl (by omega) (by rw [rowP, hs1, hc1, hw1]; rfl) (FT_ms hF (by decide) (by decide)) (by rw [ms_q (by decide)]; exact hv) (RWm_was hR)
          · omega
theorem ly_nexI {d : Nat} {s : RS} {M : Mem} (hR : RWm s M) (hB : RB s) (hO : ∀ r r', r ≤ r' → r' < s.1 → s.2.1 r ≤ s.2.1 r') {r : Nat} {Q : AV → Mem → Prop} (hr : r < s.1) (out : ∀ (M1 : Mem) (x2 : Option AV), FN M M1 → NS s (prc (r + 1) 0) M1 → G l α D cA uX10_laysNexts none d Q 132 [some (.inr 50), some (.inl (nI r)), x2] [] M1) : ∀ (k q : Nat) (M1 : Mem), s.1 - q = k → r < q → q ≤ s.1 → FN M M1 → NS s (prc r q) M1 → G l α D cA uX10_laysNexts none d Q 44 [some (.inr 50), some (.inl (nI r)), some (.inl (nI q))] [] M1 := by
  have hb := hB.1
  intro k
  induction k using Nat.strongRecOn with
  | _ k ih => ?_
  intro q M1 hkk hrq hq hF hS
  refine G_iload_n dX10_laysNexts_44 rfl rfl ?_
  refine G_aload_n dX10_laysNexts_45 rfl rfl ?_
  refine G_getI (v := (nI (s.1))) dX10_laysNexts_46 fX10_172 rfl rfl (by rw [hF 50 (by decide)]; exact hR.1) ?_
  refine Gn_icmp_ge (tgt := 132) dX10_laysNexts_49 (by decide) (by omega) (by omega) (fun h49 => ?_) (fun h49 => ?_)
  · have e : q = s.1 := by omega
    subst e
    exact out M1 _ hF (NS_same hS (fun a b ha hb z => by unfold prc; omega))
  · have hbr := hB.2 r hr
    have hbq := hB.2 q (by omega)
    have c1 := fb_ct_le (fun x => dec (NX s x r ∧ prc r q r x)) s.1
    have c2 := fb_ct_le (fun x => dec (NX s q x ∧ prc r q x q)) s.1
    refine G_aload_n dX10_laysNexts_52 rfl rfl ?_
    refine G_getR (j := 59) dX10_laysNexts_53 fX10_36 rfl rfl ?_
    refine G_iload_n dX10_laysNexts_56 rfl rfl ?_
    refine G_iald (k := q) (v := (nI (s.2.1 q))) dX10_laysNexts_57 rfl (vp_in_nI (by omega) (by omega)) (nI_clamp (by omega)) (by rw [hF 59 (by decide)]; exact (hR.2 _ (by omega)).1) ?_
    refine G_aload_n dX10_laysNexts_58 rfl rfl ?_
    refine G_getR (j := 59) dX10_laysNexts_59 fX10_36 rfl rfl ?_
    refine G_iload_n dX10_laysNexts_62 rfl rfl ?_
    refine G_iald (k := r) (v := (nI (s.2.1 r))) dX10_laysNexts_63 rfl (vp_in_nI (by omega) (by omega)) (nI_clamp (by omega)) (by rw [hF 59 (by decide)]; exact (hR.2 _ (by omega)).1) ?_
    refine G_iconst (v := (nI 1)) dX10_laysNexts_64 (by decide) ?_
    refine G_iadd (v := (nI ((s.2.1 r) + 1))) dX10_laysNexts_65 (nI_add _ _) ?_
    refine Gn_icmp_ne (tgt := 126) dX10_laysNexts_66 (by decide) (by omega) (by omega) (fun h66 => ?_) (fun h66 => ?_)
    · refine G_iinc (v := (nI (q + 1))) (L2 := [some (.inr 50), some (.inl (nI r)), some (.inl (nI (q + 1)))]) dX10_laysNexts_126 rfl (nI_1 _) rfl ?_
      refine G_goto (tgt := 44) dX10_laysNexts_129 (by decide) ?_
      exact ih (s.1 - (q + 1)) (by omega) (q + 1) M1 rfl (by omega) (by omega) hF (NS_same hS (fun a b _ _ z => by
        by_cases e : a = r ∧ b = q
        · obtain ⟨rfl, rfl⟩ := e
          exact absurd z.1 h66
        · unfold prc; omega))
    · refine G_aload_n dX10_laysNexts_69 rfl rfl ?_
      refine G_getR (j := 60) dX10_laysNexts_70 fX10_39 rfl rfl ?_
      refine G_iload_n dX10_laysNexts_73 rfl rfl ?_
      refine G_iald (k := q) (v := (nI (s.2.2.1 q))) dX10_laysNexts_74 rfl (vp_in_nI (by omega) (by omega)) (nI_clamp (by omega)) (by rw [hF 60 (by decide)]; exact (hR.2 _ (by omega)).2.1) ?_
      refine G_aload_n dX10_laysNexts_75 rfl rfl ?_
      refine G_getR (j := 61) dX10_laysNexts_76 fX10_42 rfl rfl ?_
      refine G_iload_n dX10_laysNexts_79 rfl rfl ?_
      refine G_iald (k := r) (v := (nI (s.2.2.2 r))) dX10_laysNexts_80 rfl (vp_in_nI (by omega) (by omega)) (nI_clamp (by omega)) (by rw [hF 61 (by decide)]; exact (hR.2 _ (by omega)).2.2) ?_
      refine Gn_icmp_gt (tgt := 126) dX10_laysNexts_81 (by decide) (by omega) (by omega) (fun h81 => ?_) (fun h81 => ?_)
      · refine G_iinc (v := (nI (q + 1))) (L2 := [some (.inr 50), some (.inl (nI r)), some (.inl (nI (q + 1)))]) dX10_laysNexts_126 rfl (nI_1 _) rfl ?_
        refine G_goto (tgt := 44) dX10_laysNexts_129 (by decide) ?_
        exact ih (s.1 - (q + 1)) (by omega) (q + 1) M1 rfl (by omega) (by omega) hF (NS_same hS (fun a b _ _ z => by
          by_cases e : a = r ∧ b = q
          · obtain ⟨rfl, rfl⟩ := e
            exact absurd z.2.1 (by omega)
          · unfold prc; omega))
      · refine G_aload_n dX10_laysNexts_84 rfl rfl ?_
        refine G_getR (j := 60) dX10_laysNexts_85 fX10_39 rfl rfl ?_
        refine G_iload_n dX10_laysNexts_88 rfl rfl ?_
        refine G_iald (k := r) (v := (nI (s.2.2.1 r))) dX10_laysNexts_89 rfl (vp_in_nI (by omega) (by omega)) (nI_clamp (by omega)) (by rw [hF 60 (by decide)]; exact (hR.2 _ (by omega)).2.1) ?_
        refine G_aload_n dX10_laysNexts_90 rfl rfl ?_
        refine G_getR (j := 61) dX10_laysNexts_91 fX10_42 rfl rfl ?_
        refine G_iload_n dX10_laysNexts_94 rfl rfl ?_
        refine G_iald (k := q) (v := (nI (s.2.2.2 q))) dX10_laysNexts_95 rfl (vp_in_nI (by omega) (by omega)) (nI_clamp (by omega)) (by rw [hF 61 (by decide)]; exact (hR.2 _ (by omega)).2.2) ?_
        refine Gn_icmp_gt (tgt := 126) dX10_laysNexts_96 (by decide) (by omega) (by omega) (fun h96 => ?_) (fun h96 => ?_)
        · refine G_iinc (v := (nI (q + 1))) (L2 := [some (.inr 50), some (.inl (nI r)), some (.inl (nI (q + 1)))]) dX10_laysNexts_126 rfl (nI_1 _) rfl ?_
          refine G_goto (tgt := 44) dX10_laysNexts_129 (by decide) ?_
          exact ih (s.1 - (q + 1)) (by omega) (q + 1) M1 rfl (by omega) (by omega) hF (NS_same hS (fun a b _ _ z => by
            by_cases e : a = r ∧ b = q
            · obtain ⟨rfl, rfl⟩ := e
              exact absurd z.2.2 (by omega)
            · unfold prc; omega))
        · refine G_aload_n dX10_laysNexts_99 rfl rfl ?_
          refine G_getR (j := 62) dX10_laysNexts_100 fX10_45 rfl rfl ?_
          refine G_iload_n dX10_laysNexts_103 rfl rfl ?_
          refine G_dup2 dX10_laysNexts_104 ?_
          refine G_iald (k := r) (v := (nI (fb_ct (fun x => dec (NX s x r ∧ prc r q r x)) s.1))) dX10_laysNexts_105 rfl (vp_in_nI (by omega) (by omega)) (nI_clamp (by omega)) (hS r hr).1 ?_
          refine G_iconst (v := (nI 1)) dX10_laysNexts_106 (by decide) ?_
          refine G_iadd (v := (nI ((fb_ct (fun x => dec (NX s x r ∧ prc r q r x)) s.1) + 1))) dX10_laysNexts_107 (nI_add _ _) ?_
          refine G_iast (k := r) (v := (nI ((fb_ct (fun x => dec (NX s x r ∧ prc r q r x)) s.1) + 1))) dX10_laysNexts_108 rfl (vp_in_nI (by omega) (by omega)) (nI_clamp (by omega)) rfl ?_
          refine G_aload_n dX10_laysNexts_109 rfl rfl ?_
          refine G_getR (j := 63) dX10_laysNexts_110 fX10_48 rfl rfl ?_
          refine G_iload_n dX10_laysNexts_113 rfl rfl ?_
          refine G_iload_n dX10_laysNexts_114 rfl rfl ?_
          refine G_iast (k := r) (v := (nI q)) dX10_laysNexts_115 rfl (vp_in_nI (by omega) (by omega)) (nI_clamp (by omega)) rfl ?_
          refine G_aload_n dX10_laysNexts_116 rfl rfl ?_
          refine G_getR (j := 64) dX10_laysNexts_117 fX10_51 rfl rfl ?_
          refine G_iload_n dX10_laysNexts_120 rfl rfl ?_
          refine G_dup2 dX10_laysNexts_121 ?_
          refine G_iald (k := q) (v := (nI (fb_ct (fun x => dec (NX s q x ∧ prc r q x q)) s.1))) dX10_laysNexts_122 rfl (vp_in_nI (by omega) (by omega)) (nI_clamp (by omega)) (by rw [ms_q (by decide), ms_q (by decide)]; exact (hS q (by omega)).2.1) ?_
          refine G_iconst (v := (nI 1)) dX10_laysNexts_123 (by decide) ?_
          refine G_iadd (v := (nI ((fb_ct (fun x => dec (NX s q x ∧ prc r q x q)) s.1) + 1))) dX10_laysNexts_124 (nI_add _ _) ?_
          refine G_iast (k := q) (v := (nI ((fb_ct (fun x => dec (NX s q x ∧ prc r q x q)) s.1) + 1))) dX10_laysNexts_125 rfl (vp_in_nI (by omega) (by omega)) (nI_clamp (by omega)) rfl ?_
          refine G_iinc (v := (nI (q + 1))) (L2 := [some (.inr 50), some (.inl (nI r)), some (.inl (nI (q + 1)))]) dX10_laysNexts_126 rfl (nI_1 _) rfl ?_
          refine G_goto (tgt := 44) dX10_laysNexts_129 (by decide) ?_
          exact ih (s.1 - (q + 1)) (by omega) (q + 1) _ rfl (by omega) (by omega) (fun x hx => by rw [ms_q (by omega), ms_q (by omega), ms_q (by omega)]; exact hF x hx) (NS_same (NS_add hS (show NX s q r from ⟨h66, h81, h96⟩) (by unfold prc; omega) (by unfold prc; omega) (by omega) (by omega) rfl rfl) (fun a b _ _ _ => by unfold prc; omega))
theorem ly_nexO {d : Nat} {s : RS} {M : Mem} (hR : RWm s M) (hB : RB s) (hO : ∀ r r', r ≤ r' → r' < s.1 → s.2.1 r ≤ s.2.1 r') : ∀ (k r : Nat) (M1 : Mem) (x2 : Option AV), s.1 - r = k → r ≤ s.1 → FN M M1 → NS s (prc r 0) M1 → G l α D cA uX10_laysNexts none d (fun _ M1 => FN M M1 ∧ NSa s M1) 32 [some (.inr 50), some (.inl (nI r)), x2] [] M1 := by
  have hb := hB.1
  intro k
  induction k using Nat.strongRecOn with
  | _ k ih => ?_
  intro r M1 x2 hkk hr hF hS
  refine G_iload_n dX10_laysNexts_32 rfl rfl ?_
  refine G_aload_n dX10_laysNexts_33 rfl rfl ?_
  refine G_getI (v := (nI (s.1))) dX10_laysNexts_34 fX10_172 rfl rfl (by rw [hF 50 (by decide)]; exact hR.1) ?_
  refine Gn_icmp_ge (tgt := 138) dX10_laysNexts_37 (by decide) (by omega) (by omega) (fun h37 => ?_) (fun h37 => ?_)
  · refine G_vret dX10_laysNexts_138 rfl ?_
    exact ⟨hF, NS_same hS (fun a b ha hb z => ⟨fun _ => trivial, fun _ => by unfold prc; omega⟩)⟩
  · refine G_iload_n dX10_laysNexts_40 rfl rfl ?_
    refine G_iconst (v := (nI 1)) dX10_laysNexts_41 (by decide) ?_
    refine G_iadd (v := (nI (r + 1))) dX10_laysNexts_42 (nI_add _ _) ?_
    refine G_istore_n (L2 := [some (.inr 50), some (.inl (nI r)), some (.inl (nI (r + 1)))]) dX10_laysNexts_43 rfl (Nat.le_of_ble_eq_true rfl) rfl ?_
    refine ly_nexI (M := M1) (RWm_N hR hF) hB hO (show r < s.1 by omega) (fun M2 x2 hF2 hS2 => ?_) _ (r + 1) M1 rfl (by omega) (by omega) (fun _ _ => rfl) (NS_same hS (fun a b ha hb z => by have := NX_lt hO ha z; unfold prc; omega))
    refine G_iinc (v := (nI (r + 1))) (L2 := [some (.inr 50), some (.inl (nI (r + 1))), x2]) dX10_laysNexts_132 rfl (nI_1 _) rfl ?_
    refine G_goto (tgt := 32) dX10_laysNexts_135 (by decide) ?_
    exact ih (s.1 - (r + 1)) (by omega) (r + 1) M2 _ rfl (by omega) (fun x hx => (hF2 x hx).trans (hF x hx)) hS2
theorem ly_nexZ {d : Nat} {s : RS} {M : Mem} (hR : RWm s M) (hB : RB s) (hO : ∀ r r', r ≤ r' → r' < s.1 → s.2.1 r ≤ s.2.1 r') : ∀ (k r : Nat) (M1 : Mem), s.1 - r = k → r ≤ s.1 → FN M M1 → (∀ x, x < r → M1 62 x = nI 0 ∧ M1 64 x = nI 0) → G l α D cA uX10_laysNexts none d (fun _ M1 => FN M M1 ∧ NSa s M1) 2 [some (.inr 50), some (.inl (nI r)), none] [] M1 := by
  have hb := hB.1
  intro k
  induction k using Nat.strongRecOn with
  | _ k ih => ?_
  intro r M1 hkk hr hF hS
  refine G_iload_n dX10_laysNexts_2 rfl rfl ?_
  refine G_aload_n dX10_laysNexts_3 rfl rfl ?_
  refine G_getI (v := (nI (s.1))) dX10_laysNexts_4 fX10_172 rfl rfl (by rw [hF 50 (by decide)]; exact hR.1) ?_
  refine Gn_icmp_ge (tgt := 30) dX10_laysNexts_7 (by decide) (by omega) (by omega) (fun h7 => ?_) (fun h7 => ?_)
  · refine G_iconst (v := (nI 0)) dX10_laysNexts_30 (by decide) ?_
    refine G_istore_n (L2 := [some (.inr 50), some (.inl (nI 0)), none]) dX10_laysNexts_31 rfl (Nat.le_of_ble_eq_true rfl) rfl ?_
    have e : r = s.1 := by omega
    subst e
    refine ly_nexO hR hB hO _ 0 M1 _ rfl (Nat.zero_le _) hF (fun x hx => ⟨?_, ?_, fun q _ _ h _ => by unfold prc at h; omega⟩)
    · rw [(hS x hx).1, (fb_ct_zero (n := s.1)).mpr (fun k _ => dec_f (fun z => by have := z.2; unfold prc at this; omega))]
    · rw [(hS x hx).2, (fb_ct_zero (n := s.1)).mpr (fun k _ => dec_f (fun z => by have := z.2; unfold prc at this; omega))]
  · refine G_aload_n dX10_laysNexts_10 rfl rfl ?_
    refine G_getR (j := 62) dX10_laysNexts_11 fX10_45 rfl rfl ?_
    refine G_iload_n dX10_laysNexts_14 rfl rfl ?_
    refine G_iconst (v := (nI 0)) dX10_laysNexts_15 (by decide) ?_
    refine G_iast (k := r) (v := (nI 0)) dX10_laysNexts_16 rfl (vp_in_nI (by omega) (by omega)) (nI_clamp (by omega)) rfl ?_
    refine G_aload_n dX10_laysNexts_17 rfl rfl ?_
    refine G_getR (j := 64) dX10_laysNexts_18 fX10_51 rfl rfl ?_
    refine G_iload_n dX10_laysNexts_21 rfl rfl ?_
    refine G_iconst (v := (nI 0)) dX10_laysNexts_22 (by decide) ?_
    refine G_iast (k := r) (v := (nI 0)) dX10_laysNexts_23 rfl (vp_in_nI (by omega) (by omega)) (nI_clamp (by omega)) rfl ?_
    refine G_iinc (v := (nI (r + 1))) (L2 := [some (.inr 50), some (.inl (nI (r + 1))), none]) dX10_laysNexts_24 rfl (nI_1 _) rfl ?_
    refine G_goto (tgt := 2) dX10_laysNexts_27 (by decide) ?_
    refine ih (s.1 - (r + 1)) (by omega) (r + 1) _ rfl (by omega) (fun x hx => by rw [ms_q (by omega), ms_q (by omega)]; exact hF x hx) (fun x hx => ?_)
    by_cases e : x = r
    · subst e; simp [ms, upd]
    · simp [ms, upd, e]; exact hS x (by omega)
theorem y_laysNexts {d : Nat} {s : RS} {M : Mem} (hR : RWm s M) (hB : RB s) (hO : ∀ r r', r ≤ r' → r' < s.1 → s.2.1 r ≤ s.2.1 r') : Call l α D cA uX10_laysNexts d [.inr 50] M (fun _ M1 => FN M M1 ∧ NSa s M1) := by
  refine Call.of kX10_laysNexts.1 (Nat.le_of_ble_eq_true rfl) ?_
  refine G_iconst (v := (nI 0)) dX10_laysNexts_0 (by decide) ?_
  refine G_istore_n (L2 := [some (.inr 50), some (.inl (nI 0)), none]) dX10_laysNexts_1 rfl (Nat.le_of_ble_eq_true rfl) rfl ?_
  exact ly_nexZ hR hB hO _ 0 M rfl (Nat.zero_le _) (fun _ _ => rfl) (fun x hx => absurd hx (Nat.not_lt_zero _))
/-- the parts after r rows, with what is foreseen -/
def PFm (s : RS) (r : Nat) (M : Mem) : Prop := PRm r (parS (prd s) r) M ∧ ∀ q, r ≤ q → q < s.1 → M 65 q = oI (fore s r (parS (prd s) r) q)
theorem prd_lt {s : RS} (hO : ∀ r r', r ≤ r' → r' < s.1 → s.2.1 r ≤ s.2.1 r') {r b : Nat} (h : prd s r = some b) : b < r := NX_lt hO (prd_some h).1 (prd_some h).2.1
theorem fore_r {s : RS} (hO : ∀ r r', r ≤ r' → r' < s.1 → s.2.1 r ≤ s.2.1 r') {r : Nat} {ps : PS} : fore s r ps r = (prd s r).map ps.2.1 := by
  unfold fore
  cases h : prd s r with
  | none => rfl
  | some b => exact if_pos (prd_lt hO h)
/-- what is foreseen after one more row -/
theorem fore_s {s : RS} {r q p : Nat} {ps : PS} {ps' : PS} (hq : r < q) (hp : ps'.2.1 = updN ps.2.1 r p) : fore s (r + 1) ps' q = if prd s q = some r then some p else fore s r ps q := by
  unfold fore
  rw [hp]
  cases h : prd s q with
  | none => rfl
  | some b =>
    dsimp only
    by_cases e : b = r
    · subst e
      rw [if_pos (by omega), if_pos rfl, updN_k]
    · rw [if_neg (show ¬ some b = some r from fun z => e (by injection z))]
      by_cases z : b < r
      · rw [if_pos z, if_pos (by omega), updN_n e]
      · rw [if_neg z, if_neg (by omega)]
/-- the state after row r in part p, but for what is foreseen of it -/
def PHm (s : RS) (r p : Nat) (M : Mem) : Prop := PRm (r + 1) (parS (prd s) (r + 1)) M ∧ (parS (prd s) (r + 1)).2.1 r = p ∧ (parS (prd s) (r + 1)).2.1 = updN (parS (prd s) r).2.1 r p ∧ ∀ q, r < q → q < s.1 → M 65 q = oI (fore s r (parS (prd s) r) q)
theorem PFm_none {s : RS} {r : Nat} {M : Mem} (h : PFm s r M) (hn : prd s r = none) {n : Nat} (hN : n = (parS (prd s) r).1) : PHm s r n (ms (ms (ms (ms (ms (ms M 65 r (nI n)) 67 n (nI r)) 66 n (nI 0)) 50 25 (nI (n + 1))) 66 n (nI (0 + 1))) 68 n (nI r)) := by
  subst hN
  obtain ⟨⟨h1, h2, h3⟩, h4⟩ := h
  unfold PHm
  rw [parS_none hn]
  refine ⟨⟨by simp [ms, upd], fun x hx => ?_, fun p hp => ?_⟩, updN_k, rfl, fun q hq hq2 => ?_⟩
  · by_cases e : x = r
    · subst e
      simp [ms, upd, updN_k]
    · simp [ms, upd, e, updN_n e]
      exact h2 x (by omega)
  · have hp : p < (parS (prd s) r).1 + 1 := hp
    by_cases e : p = (parS (prd s) r).1
    · subst e
      simp [ms, upd, updN_k]
    · simp [ms, upd, e, updN_n e]
      exact h3 p (by omega)
  · have e : q ≠ r := by omega
    simp [ms, upd, e]
    exact h4 q (by omega) hq2
theorem PFm_some {s : RS} {r b : Nat} {M : Mem} (h : PFm s r M) (hn : prd s r = some b) {n c : Nat} (hN : n = (parS (prd s) r).2.1 b) (hc : c = (parS (prd s) r).2.2.2.2 n) (hr : r < s.1) (hO : ∀ r r', r ≤ r' → r' < s.1 → s.2.1 r ≤ s.2.1 r') : PHm s r n (ms (ms M 66 n (nI (c + 1))) 68 n (nI r)) := by
  subst hc hN
  obtain ⟨⟨h1, h2, h3⟩, h4⟩ := h
  unfold PHm
  rw [parS_some hn]
  refine ⟨⟨by simp [ms]; exact h1, fun x hx => ?_, fun p hp => ?_⟩, updN_k, rfl, fun q hq hq2 => ?_⟩
  · by_cases e : x = r
    · subst e
      simp [ms, updN_k]
      rw [h4 x (Nat.le_refl _) hr, fore_r hO, hn]
      rfl
    · simp [ms, updN_n e]
      exact h2 x (by omega)
  · have hp : p < (parS (prd s) r).1 := hp
    by_cases e : p = (parS (prd s) r).2.1 b
    · subst e
      simp [ms, upd, updN_k]
      exact (h3 _ hp).1
    · simp [ms, upd, e, updN_n e]
      exact h3 p hp
  · simp [ms]
    exact h4 q (by omega) hq2
theorem PHm_no {s : RS} {r p : Nat} {M : Mem} (h : PHm s r p M) (hn : ∀ q, r < q → q < s.1 → ¬ prd s q = some r) : PFm s (r + 1) M :=
  ⟨h.1, fun q a b => by rw [h.2.2.2 q (by omega) b, fore_s (by omega) h.2.2.1, if_neg (hn q (by omega) b)]⟩
theorem PHm_yes {s : RS} {r p y : Nat} {M : Mem} (h : PHm s r p M) (hy : r < y) (hc : prd s y = some r) (hu : ∀ q, q < s.1 → prd s q = some r → q = y) : PFm s (r + 1) (ms M 65 y (nI p)) := by
  obtain ⟨⟨h1, h2, h3⟩, h4, h5, h6⟩ := h
  refine ⟨⟨by simp [ms]; exact h1, fun x hx => ?_, fun q hq => by simp [ms]; exact h3 q hq⟩, fun q a b => ?_⟩
  · have e : x ≠ y := by omega
    simp [ms, upd, e]
    exact h2 x hx
  · rw [fore_s (by omega) h5]
    by_cases e : q = y
    · subst e
      rw [if_pos hc]
      simp [ms, upd]
      rfl
    · rw [if_neg (fun z => e (hu q b z))]
      simp [ms, upd, e]
      exact h6 q (by omega) b
theorem ly_parE {d : Nat} {s : RS} {M : Mem} (hR : RWm s M) (hN : NSa s M) (hB : RB s) (hO : ∀ r r', r ≤ r' → r' < s.1 → s.2.1 r ≤ s.2.1 r') {r p : Nat} {M1 : Mem} (hr : r < s.1) (hF : FPm M M1) (hH : PHm s r p M1) (back : ∀ M1 : Mem, FPm M M1 → PFm s (r + 1) M1 → G l α D cA uX10_laysParts none d (fun _ M1 => FPm M M1 ∧ PRm s.1 (parS (prd s) s.1) M1) 31 [some (.inr 50), some (.inl (nI (r + 1))), some (.inl (nI p))] [] M1) : G l α D cA uX10_laysParts none d (fun _ M1 => FPm M M1 ∧ PRm s.1 (parS (prd s) s.1) M1) 114 [some (.inr 50), some (.inl (nI r)), some (.inl (nI p))] [] M1 := by
  have hb := hB.1
  have hct := NSa_ct hN hr
  have hle := fb_ct_le (fun q => dec (NX s q r)) s.1
  refine G_aload_n dX10_laysParts_114 rfl rfl ?_
  refine G_getR (j := 62) dX10_laysParts_115 fX10_45 rfl rfl ?_
  refine G_iload_n dX10_laysParts_118 rfl rfl ?_
  refine G_iald (k := r) (v := (nI (fb_ct (fun q => dec (NX s q r)) s.1))) dX10_laysParts_119 rfl (vp_in_nI (by omega) (by omega)) (nI_clamp (by omega)) (by rw [hF.1 62 (by decide) (by decide)]; exact hct.1) ?_
  refine G_iconst (v := (nI 1)) dX10_laysParts_120 (by decide) ?_
  refine Gn_icmp_ne (tgt := 151) dX10_laysParts_121 (by decide) (by omega) (by omega) (fun h121 => ?_) (fun h121 => ?_)
  · refine G_iinc (v := (nI (r + 1))) (L2 := [some (.inr 50), some (.inl (nI (r + 1))), some (.inl (nI p))]) dX10_laysParts_151 rfl (nI_1 _) rfl ?_
    refine G_goto (tgt := 31) dX10_laysParts_154 (by decide) ?_
    exact back _ hF (PHm_no hH (fun q a b z => h121 ((CN_ct b hr).mp (prd_some z).2).2.1))
  · obtain ⟨y, hy, hyd, hyu⟩ := ct_one.mp h121
    have hyd := dec_iff.mp hyd
    have hyr := NX_lt hO hr hyd
    have hle2 := fb_ct_le (fun b => dec (NX s y b)) s.1
    have hbe : M 63 r = nI y := (hN r hr).2.2 y hy hyd trivial (fun q a b _ z => absurd (hyu q b (dec_t z)) (by omega))
    refine G_aload_n dX10_laysParts_124 rfl rfl ?_
    refine G_getR (j := 64) dX10_laysParts_125 fX10_51 rfl rfl ?_
    refine G_aload_n dX10_laysParts_128 rfl rfl ?_
    refine G_getR (j := 63) dX10_laysParts_129 fX10_48 rfl rfl ?_
    refine G_iload_n dX10_laysParts_132 rfl rfl ?_
    refine G_iald (k := r) (v := (nI y)) dX10_laysParts_133 rfl (vp_in_nI (by omega) (by omega)) (nI_clamp (by omega)) (by rw [hF.1 63 (by decide) (by decide)]; exact hbe) ?_
    refine G_iald (k := y) (v := (nI (fb_ct (fun b => dec (NX s y b)) s.1))) dX10_laysParts_134 rfl (vp_in_nI (by omega) (by omega)) (nI_clamp (by omega)) (by rw [hF.1 64 (by decide) (by decide)]; exact (NSa_ct hN hy).2) ?_
    refine G_iconst (v := (nI 1)) dX10_laysParts_135 (by decide) ?_
    refine Gn_icmp_ne (tgt := 151) dX10_laysParts_136 (by decide) (by omega) (by omega) (fun h136 => ?_) (fun h136 => ?_)
    · refine G_iinc (v := (nI (r + 1))) (L2 := [some (.inr 50), some (.inl (nI (r + 1))), some (.inl (nI p))]) dX10_laysParts_151 rfl (nI_1 _) rfl ?_
      refine G_goto (tgt := 31) dX10_laysParts_154 (by decide) ?_
      exact back _ hF (PHm_no hH (fun q a b z => h136 (by have e := hyu q b (dec_t (prd_some z).2.1); subst e; exact ((CN_ct b hr).mp (prd_some z).2).2.2)))
    · refine G_aload_n dX10_laysParts_139 rfl rfl ?_
      refine G_getR (j := 65) dX10_laysParts_140 fX10_54 rfl rfl ?_
      refine G_aload_n dX10_laysParts_143 rfl rfl ?_
      refine G_getR (j := 63) dX10_laysParts_144 fX10_48 rfl rfl ?_
      refine G_iload_n dX10_laysParts_147 rfl rfl ?_
      refine G_iald (k := r) (v := (nI y)) dX10_laysParts_148 rfl (vp_in_nI (by omega) (by omega)) (nI_clamp (by omega)) (by rw [hF.1 63 (by decide) (by decide)]; exact hbe) ?_
      refine G_iload_n dX10_laysParts_149 rfl rfl ?_
      refine G_iast (k := y) (v := (nI p)) dX10_laysParts_150 rfl (vp_in_nI (by omega) (by omega)) (nI_clamp (by omega)) rfl ?_
      refine G_iinc (v := (nI (r + 1))) (L2 := [some (.inr 50), some (.inl (nI (r + 1))), some (.inl (nI p))]) dX10_laysParts_151 rfl (nI_1 _) rfl ?_
      refine G_goto (tgt := 31) dX10_laysParts_154 (by decide) ?_
      exact back _ (FPm_ms hF (by decide) (by decide)) (PHm_yes hH hyr (prd_is hr ((CN_ct hy hr).mpr ⟨hyd, h121, h136⟩)) (fun q hq z => hyu q hq (dec_t (prd_some z).2.1)))
theorem no9 {n : Nat} (h : n < 2 ^ 31) : ¬ nI n = -9 := by
  intro e
  have h1 := nI_pos h
  rw [e] at h1
  exact absurd (by decide) h1
theorem ly_parO {d : Nat} {s : RS} {M : Mem} (hR : RWm s M) (hN : NSa s M) (hB : RB s) (hO : ∀ r r', r ≤ r' → r' < s.1 → s.2.1 r ≤ s.2.1 r') : ∀ (k r : Nat) (M1 : Mem) (x2 : Option AV), s.1 - r = k → r ≤ s.1 → FPm M M1 → PFm s r M1 → G l α D cA uX10_laysParts none d (fun _ M1 => FPm M M1 ∧ PRm s.1 (parS (prd s) s.1) M1) 31 [some (.inr 50), some (.inl (nI r)), x2] [] M1 := by
  have hb := hB.1
  intro k
  induction k using Nat.strongRecOn with
  | _ k ih => ?_
  intro r M1 x2 hkk hr hF hP
  have hI := PI_S (fun r b h => prd_lt hO h) r
  have hn1 := hI.1
  refine G_iload_n dX10_laysParts_31 rfl rfl ?_
  refine G_aload_n dX10_laysParts_32 rfl rfl ?_
  refine G_getI (v := (nI (s.1))) dX10_laysParts_33 fX10_172 rfl rfl (by rw [hF.2 17 (by decide)]; exact hR.1) ?_
  refine Gn_icmp_ge (tgt := 157) dX10_laysParts_36 (by decide) (by omega) (by omega) (fun h36 => ?_) (fun h36 => ?_)
  · refine G_vret dX10_laysParts_157 rfl ?_
    have e : r = s.1 := by omega
    subst e
    exact ⟨hF, hP.1⟩
  · rcases hq : prd s r with _ | b
    · skip
      refine G_aload_n dX10_laysParts_39 rfl rfl ?_
      refine G_getR (j := 65) dX10_laysParts_40 fX10_54 rfl rfl ?_
      refine G_iload_n dX10_laysParts_43 rfl rfl ?_
      refine G_iald (k := r) (v := ((-9))) dX10_laysParts_44 rfl (vp_in_nI (by omega) (by omega)) (nI_clamp (by omega)) (by rw [hP.2 r (Nat.le_refl _) (by omega), fore_r hO, hq]; rfl) ?_
      refine G_bipush (v := ((-9))) dX10_laysParts_45 (by decide) ?_
      refine G_icmp_ne (tgt := 90) dX10_laysParts_47 (by decide) (fun h47 => ?_) (fun h47 => ?_)
      · exact absurd rfl h47
      · refine G_aload_n dX10_laysParts_50 rfl rfl ?_
        refine G_getR (j := 65) dX10_laysParts_51 fX10_54 rfl rfl ?_
        refine G_iload_n dX10_laysParts_54 rfl rfl ?_
        refine G_aload_n dX10_laysParts_55 rfl rfl ?_
        refine G_getI (v := (nI ((parS (prd s) r).1))) dX10_laysParts_56 fX10_184 rfl rfl hP.1.1 ?_
        refine G_iast (k := r) (v := (nI ((parS (prd s) r).1))) dX10_laysParts_59 rfl (vp_in_nI (by omega) (by omega)) (nI_clamp (by omega)) rfl ?_
        refine G_aload_n dX10_laysParts_60 rfl rfl ?_
        refine G_getR (j := 67) dX10_laysParts_61 fX10_60 rfl rfl ?_
        refine G_aload_n dX10_laysParts_64 rfl rfl ?_
        refine G_getI (v := (nI ((parS (prd s) r).1))) dX10_laysParts_65 fX10_184 rfl rfl (by simp [ms]; exact hP.1.1) ?_
        refine G_iload_n dX10_laysParts_68 rfl rfl ?_
        refine G_iast (k := (parS (prd s) r).1) (v := (nI r)) dX10_laysParts_69 rfl (vp_in_nI (by omega) (by omega)) (nI_clamp (by omega)) rfl ?_
        refine G_aload_n dX10_laysParts_70 rfl rfl ?_
        refine G_getR (j := 66) dX10_laysParts_71 fX10_57 rfl rfl ?_
        refine G_aload_n dX10_laysParts_74 rfl rfl ?_
        refine G_getI (v := (nI ((parS (prd s) r).1))) dX10_laysParts_75 fX10_184 rfl rfl (by simp [ms]; exact hP.1.1) ?_
        refine G_iconst (v := (nI 0)) dX10_laysParts_78 (by decide) ?_
        refine G_iast (k := (parS (prd s) r).1) (v := (nI 0)) dX10_laysParts_79 rfl (vp_in_nI (by omega) (by omega)) (nI_clamp (by omega)) rfl ?_
        refine G_aload_n dX10_laysParts_80 rfl rfl ?_
        refine G_dup dX10_laysParts_81 ?_
        refine G_getI (v := (nI ((parS (prd s) r).1))) dX10_laysParts_82 fX10_184 rfl rfl (by simp [ms]; exact hP.1.1) ?_
        refine G_iconst (v := (nI 1)) dX10_laysParts_85 (by decide) ?_
        refine G_iadd (v := (nI (((parS (prd s) r).1) + 1))) dX10_laysParts_86 (nI_add _ _) ?_
        refine G_put dX10_laysParts_87 pX10_184 rfl rfl ?_
        refine G_aload_n dX10_laysParts_90 rfl rfl ?_
        refine G_getR (j := 65) dX10_laysParts_91 fX10_54 rfl rfl ?_
        refine G_iload_n dX10_laysParts_94 rfl rfl ?_
        refine G_iald (k := r) (v := (nI ((parS (prd s) r).1))) dX10_laysParts_95 rfl (vp_in_nI (by omega) (by omega)) (nI_clamp (by omega)) (by simp [ms, upd]) ?_
        refine G_istore_n (L2 := [some (.inr 50), some (.inl (nI r)), some (.inl (nI ((parS (prd s) r).1)))]) dX10_laysParts_96 rfl (Nat.le_of_ble_eq_true rfl) rfl ?_
        refine G_aload_n dX10_laysParts_97 rfl rfl ?_
        refine G_getR (j := 66) dX10_laysParts_98 fX10_57 rfl rfl ?_
        refine G_iload_n dX10_laysParts_101 rfl rfl ?_
        refine G_dup2 dX10_laysParts_102 ?_
        refine G_iald (k := (parS (prd s) r).1) (v := (nI 0)) dX10_laysParts_103 rfl (vp_in_nI (by omega) (by omega)) (nI_clamp (by omega)) (by simp [ms, upd]) ?_
        refine G_iconst (v := (nI 1)) dX10_laysParts_104 (by decide) ?_
        refine G_iadd (v := (nI (0 + 1))) dX10_laysParts_105 (nI_add 0 1) ?_
        refine G_iast (k := (parS (prd s) r).1) (v := (nI (0 + 1))) dX10_laysParts_106 rfl (vp_in_nI (by omega) (by omega)) (nI_clamp (by omega)) rfl ?_
        refine G_aload_n dX10_laysParts_107 rfl rfl ?_
        refine G_getR (j := 68) dX10_laysParts_108 fX10_63 rfl rfl ?_
        refine G_iload_n dX10_laysParts_111 rfl rfl ?_
        refine G_iload_n dX10_laysParts_112 rfl rfl ?_
        refine G_iast (k := (parS (prd s) r).1) (v := (nI r)) dX10_laysParts_113 rfl (vp_in_nI (by omega) (by omega)) (nI_clamp (by omega)) rfl ?_
        refine ly_parE hR hN hB hO (show r < s.1 by omega) (FPm_ms (FPm_ms (FPm_f (FPm_ms (FPm_ms (FPm_ms hF (by decide) (by decide)) (by decide) (by decide)) (by decide) (by decide))) (by decide) (by decide)) (by decide) (by decide)) (PFm_none hP hq rfl) (fun M2 hF2 hP2 => ?_)
        exact ih (s.1 - (r + 1)) (by omega) (r + 1) M2 _ rfl (by omega) hF2 hP2
    · have hbr := prd_lt hO hq
      have hpb := hI.2.1 b hbr
      refine G_aload_n dX10_laysParts_39 rfl rfl ?_
      refine G_getR (j := 65) dX10_laysParts_40 fX10_54 rfl rfl ?_
      refine G_iload_n dX10_laysParts_43 rfl rfl ?_
      refine G_iald (k := r) (v := (nI ((parS (prd s) r).2.1 b))) dX10_laysParts_44 rfl (vp_in_nI (by omega) (by omega)) (nI_clamp (by omega)) (by rw [hP.2 r (Nat.le_refl _) (by omega), fore_r hO, hq]; rfl) ?_
      refine G_bipush (v := ((-9))) dX10_laysParts_45 (by decide) ?_
      refine G_icmp_ne (tgt := 90) dX10_laysParts_47 (by decide) (fun h47 => ?_) (fun h47 => ?_)
      · refine G_aload_n dX10_laysParts_90 rfl rfl ?_
        refine G_getR (j := 65) dX10_laysParts_91 fX10_54 rfl rfl ?_
        refine G_iload_n dX10_laysParts_94 rfl rfl ?_
        refine G_iald (k := r) (v := (nI ((parS (prd s) r).2.1 b))) dX10_laysParts_95 rfl (vp_in_nI (by omega) (by omega)) (nI_clamp (by omega)) (by rw [hP.2 r (Nat.le_refl _) (by omega), fore_r hO, hq]; rfl) ?_
        refine G_istore_n (L2 := [some (.inr 50), some (.inl (nI r)), some (.inl (nI ((parS (prd s) r).2.1 b)))]) dX10_laysParts_96 rfl (Nat.le_of_ble_eq_true rfl) rfl ?_
        refine G_aload_n dX10_laysParts_97 rfl rfl ?_
        refine G_getR (j := 66) dX10_laysParts_98 fX10_57 rfl rfl ?_
        refine G_iload_n dX10_laysParts_101 rfl rfl ?_
        refine G_dup2 dX10_laysParts_102 ?_
        refine G_iald (k := (parS (prd s) r).2.1 b) (v := (nI ((parS (prd s) r).2.2.2.2 ((parS (prd s) r).2.1 b)))) dX10_laysParts_103 rfl (vp_in_nI (by omega) (by omega)) (nI_clamp (by omega)) (hP.1.2.2 _ hpb).2.2 ?_
        refine G_iconst (v := (nI 1)) dX10_laysParts_104 (by decide) ?_
        refine G_iadd (v := (nI (((parS (prd s) r).2.2.2.2 ((parS (prd s) r).2.1 b)) + 1))) dX10_laysParts_105 (nI_add _ _) ?_
        refine G_iast (k := (parS (prd s) r).2.1 b) (v := (nI (((parS (prd s) r).2.2.2.2 ((parS (prd s) r).2.1 b)) + 1))) dX10_laysParts_106 rfl (vp_in_nI (by omega) (by omega)) (nI_clamp (by omega)) rfl ?_
        refine G_aload_n dX10_laysParts_107 rfl rfl ?_
        refine G_getR (j := 68) dX10_laysParts_108 fX10_63 rfl rfl ?_
        refine G_iload_n dX10_laysParts_111 rfl rfl ?_
        refine G_iload_n dX10_laysParts_112 rfl rfl ?_
        refine G_iast (k := (parS (prd s) r).2.1 b) (v := (nI r)) dX10_laysParts_113 rfl (vp_in_nI (by omega) (by omega)) (nI_clamp (by omega)) rfl ?_
        refine ly_parE hR hN hB hO (show r < s.1 by omega) (FPm_ms (FPm_ms hF (by decide) (by decide)) (by decide) (by decide)) (PFm_some hP hq rfl rfl (by omega) hO) (fun M2 hF2 hP2 => ?_)
        exact ih (s.1 - (r + 1)) (by omega) (r + 1) M2 _ rfl (by omega) hF2 hP2
      · exact absurd h47 (no9 (by omega))
theorem ly_parZ {d : Nat} {s : RS} {M : Mem} (hR : RWm s M) (hN : NSa s M) (hB : RB s) (hO : ∀ r r', r ≤ r' → r' < s.1 → s.2.1 r ≤ s.2.1 r') : ∀ (k r : Nat) (M1 : Mem), s.1 - r = k → r ≤ s.1 → FPm M M1 → M1 50 25 = nI 0 → (∀ x, x < r → M1 65 x = -9) → G l α D cA uX10_laysParts none d (fun _ M1 => FPm M M1 ∧ PRm s.1 (parS (prd s) s.1) M1) 7 [some (.inr 50), some (.inl (nI r)), none] [] M1 := by
  have hb := hB.1
  intro k
  induction k using Nat.strongRecOn with
  | _ k ih => ?_
  intro r M1 hkk hr hF h0 hS
  refine G_iload_n dX10_laysParts_7 rfl rfl ?_
  refine G_aload_n dX10_laysParts_8 rfl rfl ?_
  refine G_getI (v := (nI (s.1))) dX10_laysParts_9 fX10_172 rfl rfl (by rw [hF.2 17 (by decide)]; exact hR.1) ?_
  refine Gn_icmp_ge (tgt := 29) dX10_laysParts_12 (by decide) (by omega) (by omega) (fun h12 => ?_) (fun h12 => ?_)
  · refine G_iconst (v := (nI 0)) dX10_laysParts_29 (by decide) ?_
    refine G_istore_n (L2 := [some (.inr 50), some (.inl (nI 0)), none]) dX10_laysParts_30 rfl (Nat.le_of_ble_eq_true rfl) rfl ?_
    have e : r = s.1 := by omega
    subst e
    refine ly_parO hR hN hB hO _ 0 M1 _ rfl (Nat.zero_le _) hF ⟨⟨h0, fun x hx => absurd hx (Nat.not_lt_zero _), fun x hx => absurd hx (Nat.not_lt_zero _)⟩, fun q _ hq => ?_⟩
    rw [hS q hq]
    unfold fore
    cases prd s q with
    | none => rfl
    | some b => dsimp only; rw [if_neg (Nat.not_lt_zero _)]; rfl
  · refine G_aload_n dX10_laysParts_15 rfl rfl ?_
    refine G_getR (j := 65) dX10_laysParts_16 fX10_54 rfl rfl ?_
    refine G_iload_n dX10_laysParts_19 rfl rfl ?_
    refine G_bipush (v := ((-9))) dX10_laysParts_20 (by decide) ?_
    refine G_iast (k := r) (v := ((-9))) dX10_laysParts_22 rfl (vp_in_nI (by omega) (by omega)) (nI_clamp (by omega)) rfl ?_
    refine G_iinc (v := (nI (r + 1))) (L2 := [some (.inr 50), some (.inl (nI (r + 1))), none]) dX10_laysParts_23 rfl (nI_1 _) rfl ?_
    refine G_goto (tgt := 7) dX10_laysParts_26 (by decide) ?_
    refine ih (s.1 - (r + 1)) (by omega) (r + 1) _ rfl (by omega) (FPm_ms hF (by decide) (by decide)) (by rw [ms_q (by decide)]; exact h0) (fun x hx => ?_)
    by_cases e : x = r
    · subst e; simp [ms, upd]
    · simp [ms, upd, e]; exact hS x (by omega)
theorem y_laysParts {d : Nat} {s : RS} {M : Mem} (hR : RWm s M) (hN : NSa s M) (hB : RB s) (hO : ∀ r r', r ≤ r' → r' < s.1 → s.2.1 r ≤ s.2.1 r') : Call l α D cA uX10_laysParts d [.inr 50] M (fun _ M1 => FPm M M1 ∧ PRm s.1 (parS (prd s) s.1) M1) := by
  refine Call.of kX10_laysParts.1 (Nat.le_of_ble_eq_true rfl) ?_
  refine G_aload_n dX10_laysParts_0 rfl rfl ?_
  refine G_iconst (v := (nI 0)) dX10_laysParts_1 (by decide) ?_
  refine G_put dX10_laysParts_2 pX10_184 rfl rfl ?_
  refine G_iconst (v := (nI 0)) dX10_laysParts_5 (by decide) ?_
  refine G_istore_n (L2 := [some (.inr 50), some (.inl (nI 0)), none]) dX10_laysParts_6 rfl (Nat.le_of_ble_eq_true rfl) rfl ?_
  exact ly_parZ hR hN hB hO _ 0 _ rfl (Nat.zero_le _) (FPm_f ⟨fun _ _ _ => rfl, fun _ _ => rfl⟩) (by rw [ms_o]; exact upd_k) (fun x hx => absurd hx (Nat.not_lt_zero _))
theorem ly_rowO {d v f : Nat} {g : Nat → Nat} {M : Mem} (hs : hS g (M 51)) (hk : gok g) (hO : FOg g M) (v2 : v < 2) (hf : f < labN g) : ∀ (k i : Nat) (M1 : Mem) (x6 x7 : Option AV), lcO v (g 0) (g 1) - i = k → i ≤ lcO v (g 0) (g 1) → FT M M1 → M1 50 29 = nI v → RWm (rowA (cF (labF g) v f) (llO v (g 0) (g 1)) i) M1 → G l α D cA uX10_laysRows none (d + 1) (fun _ M1 => FT M M1 ∧ FOg g M1 ∧ SWm g v f M1) 54 [some (.inr 50), some (.inl (nI f)), some (.inl (nI v)), some (.inl (nI (lcO v (g 0) (g 1)))), some (.inl (nI (llO v (g 0) (g 1)))), some (.inl (nI i)), x6, x7] [] M1 := by
  have hll : lcO v (g 0) (g 1) ≤ 8 := by have := hk.1.2; have := hk.2.1.2; unfold lcO; split <;> omega
  intro k
  induction k using Nat.strongRecOn with
  | _ k ih => ?_
  intro i M1 x6 x7 hkk hi hF hv hR
  refine G_iload dX10_laysRows_54 rfl ?_
  refine G_iload_n dX10_laysRows_56 rfl rfl ?_
  refine Gn_icmp_ge (tgt := 180) dX10_laysRows_57 (by decide) (by omega) (by omega) (fun h57 => ?_) (fun h57 => ?_)
  · have e : i = lcO v (g 0) (g 1) := by omega
    subst e
    have hR : RWm (rwS (labF g) v f (g 0) (g 1)) M1 := hR
    refine G_aload_n dX10_laysRows_180 rfl rfl ?_
    refine G_callVv (ν := uX10_laysNexts) (As := []) dX10_laysRows_181 nX10_178 kX10_laysNexts rfl rfl rfl rfl rfl (Nat.le_of_ble_eq_true rfl) (y_laysNexts hR (rwS_RB hk.1.2 hk.2.1.2) rwS_RI.2.2.1) ?_
    rintro _ M2 ⟨hF2, hN2⟩
    refine G_aload_n dX10_laysRows_184 rfl rfl ?_
    refine G_callVv (ν := uX10_laysParts) (As := []) dX10_laysRows_185 nX10_181 kX10_laysParts rfl rfl rfl rfl rfl (Nat.le_of_ble_eq_true rfl) (y_laysParts (RWm_N hR hF2) hN2 (rwS_RB hk.1.2 hk.2.1.2) rwS_RI.2.2.1) ?_
    rintro _ M3 ⟨hF3, hP3⟩
    refine G_vret dX10_laysRows_188 rfl ?_
    exact ⟨FT_t hF (FT_t (FN_T hF2) (FPm_T hF3)), FT_O (FPm_T hF3) (FT_O (FN_T hF2) (FT_O hF hO)), by rw [hF3.2 29 (by decide), hF2 50 (by decide)]; exact hv, RWm_P (RWm_N hR hF2) hF3, hP3⟩
  · refine G_iconst (v := (nI 0)) dX10_laysRows_60 (by decide) ?_
    refine G_istore (L2 := [some (.inr 50), some (.inl (nI f)), some (.inl (nI v)), some (.inl (nI (lcO v (g 0) (g 1)))), some (.inl (nI (llO v (g 0) (g 1)))), some (.inl (nI i)), some (.inl (nI 0)), x7]) dX10_laysRows_61 (Nat.le_of_ble_eq_true rfl) rfl ?_
    refine ly_rowI (M := M1) (FT_s hF hs) hk (FT_O hF hO) v2 hf (show i < lcO v (g 0) (g 1) by omega) (fun M2 x6 x7 hF2 hv2 hR2 => ?_) _ 0 _ M1 _ rfl (Nat.zero_le _) rfl FT_r hv hR
    refine G_iinc (v := (nI (i + 1))) (L2 := [some (.inr 50), some (.inl (nI f)), some (.inl (nI v)), some (.inl (nI (lcO v (g 0) (g 1)))), some (.inl (nI (llO v (g 0) (g 1)))), some (.inl (nI (i + 1))), x6, x7]) dX10_laysRows_174 rfl (nI_1 _) rfl ?_
    refine G_goto (tgt := 54) dX10_laysRows_177 (by decide) ?_
    exact ih (lcO v (g 0) (g 1) - (i + 1)) (by omega) (i + 1) M2 _ _ rfl (by omega) (FT_t hF hF2) hv2 hR2
theorem y_laysRows {d v f : Nat} {g : Nat → Nat} {M : Mem} (hs : hS g (M 51)) (hk : gok g) (hO : FOg g M) (v2 : v < 2) (hf : f < labN g) : Call l α D cA uX10_laysRows (d + 1) [.inr 50, .inl (nI f), .inl (nI v)] M (fun _ M1 => FT M M1 ∧ FOg g M1 ∧ SWm g v f M1) := by
  refine Call.of kX10_laysRows.1 (Nat.le_of_ble_eq_true rfl) ?_
  refine G_aload_n dX10_laysRows_0 rfl rfl ?_
  refine G_iload_n dX10_laysRows_1 rfl rfl ?_
  refine G_put dX10_laysRows_2 pX10_169 rfl rfl ?_
  refine G_aload_n dX10_laysRows_5 rfl rfl ?_
  refine G_iconst (v := (nI 0)) dX10_laysRows_6 (by decide) ?_
  refine G_put dX10_laysRows_7 pX10_172 rfl rfl ?_
  refine G_iload_n dX10_laysRows_10 rfl rfl ?_
  refine Gn_if_ne (tgt := 23) dX10_laysRows_11 (by decide) (by omega) (fun h11 => ?_) (fun h11 => ?_)
  · refine G_aload_n dX10_laysRows_23 rfl rfl ?_
    refine G_getR (j := 51) dX10_laysRows_24 fX10_7 rfl rfl ?_
    refine G_iconst (v := (nI 0)) dX10_laysRows_27 (by decide) ?_
    refine G_iald (k := 0) (v := (nI (lcO v (g 0) (g 1)))) dX10_laysRows_28 rfl (vp_in_nI (by decide) (by decide)) rfl (by simp only [ms_q (show (51 : Nat) ≠ 50 by decide)]; rw [hs.1 0 (by decide), lcO, if_neg h11]) ?_
    refine G_istore_n (L2 := [some (.inr 50), some (.inl (nI f)), some (.inl (nI v)), some (.inl (nI (lcO v (g 0) (g 1)))), none, none, none, none]) dX10_laysRows_29 rfl (Nat.le_of_ble_eq_true rfl) rfl ?_
    refine G_iload_n dX10_laysRows_30 rfl rfl ?_
    refine Gn_if_ne (tgt := 43) dX10_laysRows_31 (by decide) (by omega) (fun h31 => ?_) (fun h31 => ?_)
    · refine G_aload_n dX10_laysRows_43 rfl rfl ?_
      refine G_getR (j := 51) dX10_laysRows_44 fX10_7 rfl rfl ?_
      refine G_iconst (v := (nI 1)) dX10_laysRows_47 (by decide) ?_
      refine G_iald (k := 1) (v := (nI (llO v (g 0) (g 1)))) dX10_laysRows_48 rfl (vp_in_nI (by decide) (by decide)) rfl (by simp only [ms_q (show (51 : Nat) ≠ 50 by decide)]; rw [hs.1 1 (by decide), llO, if_neg h31]) ?_
      refine G_istore (L2 := [some (.inr 50), some (.inl (nI f)), some (.inl (nI v)), some (.inl (nI (lcO v (g 0) (g 1)))), some (.inl (nI (llO v (g 0) (g 1)))), none, none, none]) dX10_laysRows_49 (Nat.le_of_ble_eq_true rfl) rfl ?_
      refine G_iconst (v := (nI 0)) dX10_laysRows_51 (by decide) ?_
      refine G_istore (L2 := [some (.inr 50), some (.inl (nI f)), some (.inl (nI v)), some (.inl (nI (lcO v (g 0) (g 1)))), some (.inl (nI (llO v (g 0) (g 1)))), some (.inl (nI 0)), none, none]) dX10_laysRows_52 (Nat.le_of_ble_eq_true rfl) rfl ?_
      exact ly_rowO hs hk hO v2 hf _ 0 _ _ _ rfl (Nat.zero_le _) (FT_f (FT_f FT_r (by decide)) (by decide)) (by rw [ms_o, upd_n (by decide), ms_o]; exact upd_k) ⟨by rw [ms_o]; exact upd_k, fun r hr => absurd hr (Nat.not_lt_zero _)⟩
    · refine G_aload_n dX10_laysRows_34 rfl rfl ?_
      refine G_getR (j := 51) dX10_laysRows_35 fX10_7 rfl rfl ?_
      refine G_iconst (v := (nI 0)) dX10_laysRows_38 (by decide) ?_
      refine G_iald (k := 0) (v := (nI (llO v (g 0) (g 1)))) dX10_laysRows_39 rfl (vp_in_nI (by decide) (by decide)) rfl (by simp only [ms_q (show (51 : Nat) ≠ 50 by decide)]; rw [hs.1 0 (by decide), llO, if_pos h31]) ?_
      refine G_goto (tgt := 49) dX10_laysRows_40 (by decide) ?_
      refine G_istore (L2 := [some (.inr 50), some (.inl (nI f)), some (.inl (nI v)), some (.inl (nI (lcO v (g 0) (g 1)))), some (.inl (nI (llO v (g 0) (g 1)))), none, none, none]) dX10_laysRows_49 (Nat.le_of_ble_eq_true rfl) rfl ?_
      refine G_iconst (v := (nI 0)) dX10_laysRows_51 (by decide) ?_
      refine G_istore (L2 := [some (.inr 50), some (.inl (nI f)), some (.inl (nI v)), some (.inl (nI (lcO v (g 0) (g 1)))), some (.inl (nI (llO v (g 0) (g 1)))), some (.inl (nI 0)), none, none]) dX10_laysRows_52 (Nat.le_of_ble_eq_true rfl) rfl ?_
      exact ly_rowO hs hk hO v2 hf _ 0 _ _ _ rfl (Nat.zero_le _) (FT_f (FT_f FT_r (by decide)) (by decide)) (by rw [ms_o, upd_n (by decide), ms_o]; exact upd_k) ⟨by rw [ms_o]; exact upd_k, fun r hr => absurd hr (Nat.not_lt_zero _)⟩
  · refine G_aload_n dX10_laysRows_14 rfl rfl ?_
    refine G_getR (j := 51) dX10_laysRows_15 fX10_7 rfl rfl ?_
    refine G_iconst (v := (nI 1)) dX10_laysRows_18 (by decide) ?_
    refine G_iald (k := 1) (v := (nI (lcO v (g 0) (g 1)))) dX10_laysRows_19 rfl (vp_in_nI (by decide) (by decide)) rfl (by simp only [ms_q (show (51 : Nat) ≠ 50 by decide)]; rw [hs.1 1 (by decide), lcO, if_pos h11]) ?_
    refine G_goto (tgt := 29) dX10_laysRows_20 (by decide) ?_
    refine G_istore_n (L2 := [some (.inr 50), some (.inl (nI f)), some (.inl (nI v)), some (.inl (nI (lcO v (g 0) (g 1)))), none, none, none, none]) dX10_laysRows_29 rfl (Nat.le_of_ble_eq_true rfl) rfl ?_
    refine G_iload_n dX10_laysRows_30 rfl rfl ?_
    refine Gn_if_ne (tgt := 43) dX10_laysRows_31 (by decide) (by omega) (fun h31 => ?_) (fun h31 => ?_)
    · refine G_aload_n dX10_laysRows_43 rfl rfl ?_
      refine G_getR (j := 51) dX10_laysRows_44 fX10_7 rfl rfl ?_
      refine G_iconst (v := (nI 1)) dX10_laysRows_47 (by decide) ?_
      refine G_iald (k := 1) (v := (nI (llO v (g 0) (g 1)))) dX10_laysRows_48 rfl (vp_in_nI (by decide) (by decide)) rfl (by simp only [ms_q (show (51 : Nat) ≠ 50 by decide)]; rw [hs.1 1 (by decide), llO, if_neg h31]) ?_
      refine G_istore (L2 := [some (.inr 50), some (.inl (nI f)), some (.inl (nI v)), some (.inl (nI (lcO v (g 0) (g 1)))), some (.inl (nI (llO v (g 0) (g 1)))), none, none, none]) dX10_laysRows_49 (Nat.le_of_ble_eq_true rfl) rfl ?_
      refine G_iconst (v := (nI 0)) dX10_laysRows_51 (by decide) ?_
      refine G_istore (L2 := [some (.inr 50), some (.inl (nI f)), some (.inl (nI v)), some (.inl (nI (lcO v (g 0) (g 1)))), some (.inl (nI (llO v (g 0) (g 1)))), some (.inl (nI 0)), none, none]) dX10_laysRows_52 (Nat.le_of_ble_eq_true rfl) rfl ?_
      exact ly_rowO hs hk hO v2 hf _ 0 _ _ _ rfl (Nat.zero_le _) (FT_f (FT_f FT_r (by decide)) (by decide)) (by rw [ms_o, upd_n (by decide), ms_o]; exact upd_k) ⟨by rw [ms_o]; exact upd_k, fun r hr => absurd hr (Nat.not_lt_zero _)⟩
    · refine G_aload_n dX10_laysRows_34 rfl rfl ?_
      refine G_getR (j := 51) dX10_laysRows_35 fX10_7 rfl rfl ?_
      refine G_iconst (v := (nI 0)) dX10_laysRows_38 (by decide) ?_
      refine G_iald (k := 0) (v := (nI (llO v (g 0) (g 1)))) dX10_laysRows_39 rfl (vp_in_nI (by decide) (by decide)) rfl (by simp only [ms_q (show (51 : Nat) ≠ 50 by decide)]; rw [hs.1 0 (by decide), llO, if_pos h31]) ?_
      refine G_goto (tgt := 49) dX10_laysRows_40 (by decide) ?_
      refine G_istore (L2 := [some (.inr 50), some (.inl (nI f)), some (.inl (nI v)), some (.inl (nI (lcO v (g 0) (g 1)))), some (.inl (nI (llO v (g 0) (g 1)))), none, none, none]) dX10_laysRows_49 (Nat.le_of_ble_eq_true rfl) rfl ?_
      refine G_iconst (v := (nI 0)) dX10_laysRows_51 (by decide) ?_
      refine G_istore (L2 := [some (.inr 50), some (.inl (nI f)), some (.inl (nI v)), some (.inl (nI (lcO v (g 0) (g 1)))), some (.inl (nI (llO v (g 0) (g 1)))), some (.inl (nI 0)), none, none]) dX10_laysRows_52 (Nat.le_of_ble_eq_true rfl) rfl ?_
      exact ly_rowO hs hk hO v2 hf _ 0 _ _ _ rfl (Nat.zero_le _) (FT_f (FT_f FT_r (by decide)) (by decide)) (by rw [ms_o, upd_n (by decide), ms_o]; exact upd_k) ⟨by rw [ms_o]; exact upd_k, fun r hr => absurd hr (Nat.not_lt_zero _)⟩
end P31
