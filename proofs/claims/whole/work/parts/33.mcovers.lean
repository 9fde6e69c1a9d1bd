/-! The reference: covered cells -/
section P33
variable {l : Launch} {α : Nat → Nat} {D : va_G} {cA : Nat → ClassId}
def R70 (M M1 : Mem) : Prop := ∀ q, q ≠ 70 → M1 q = M q
theorem R70_T {M M1 : Mem} (h : R70 M M1) : FT M M1 := ⟨fun q a b => h q (by omega), fun j _ _ _ => by rw [h 50 (by decide)]⟩
theorem SWm_70 {g : Nat → Nat} {v f : Nat} {M M1 : Mem} (h : SWm g v f M) (hR : R70 M M1) : SWm g v f M1 := by
  unfold SWm RWm PRm
  rw [hR 50 (by decide), hR 59 (by decide), hR 60 (by decide), hR 61 (by decide), hR 65 (by decide), hR 66 (by decide), hR 67 (by decide), hR 68 (by decide)]
  exact h
theorem sub_toInt {x p : Nat} (hx : x < 100) (hp : p < 100) : (nI x - nI p).toInt = (x : Int) - p := by
  rw [fb_subI] <;> rw [nI_toInt (by omega), nI_toInt (by omega)] <;> omega
theorem sub_gt {x p e : Nat} (hx : x < 100) (hp : p < 100) (he : e < 100) : (nI e < nI x - nI p) ↔ e + p < x := by
  rw [Int32.lt_iff_toInt_lt, sub_toInt hx hp, nI_toInt (by omega)]
  omega
theorem sub_in {x p hi : Nat} (hx : x < 100) (hp : p < 100) (he : hi < 100) : inI 0 hi (nI x - nI p) ↔ p ≤ x ∧ x ≤ hi + p := by
  unfold inI
  rw [Int32.le_iff_toInt_le, Int32.le_iff_toInt_le, sub_toInt hx hp, nI_toInt (by omega), nI_toInt (by omega)]
  omega
theorem sub_1 {x p : Nat} : nI x - nI p + 1 = nI (x + 1) - nI p := by
  rw [← nI_1 x]
  grind
/-- row r covers q, up to position x of the widened row -/
def covJ (w W H pull : Nat) (s : RS) (r x q : Nat) : Prop := ∃ y, y + pull < x ∧ s.2.2.1 r ≤ y + pull ∧ y ≤ s.2.2.2 r + pull ∧ y < llO w W H ∧ q = plc w (s.2.1 r) y
theorem covJ_s {w W H pull : Nat} {s : RS} {r x q : Nat} (h0 : pull ≤ x) (h : s.2.2.1 r ≤ x ∧ x - pull ≤ s.2.2.2 r + pull ∧ x - pull < llO w W H) : covJ w W H pull s r (x + 1) q ↔ covJ w W H pull s r x q ∨ q = plc w (s.2.1 r) (x - pull) := by
  constructor
  · rintro ⟨y, h1, h2⟩
    rcases (show y + pull < x ∨ y = x - pull by omega) with z | z
    · exact Or.inl ⟨y, z, h2⟩
    · subst z
      exact Or.inr h2.2.2.2
  · rintro (⟨y, h1, h2⟩ | rfl)
    · exact ⟨y, by omega, h2⟩
    · exact ⟨x - pull, by omega, by omega, h.2.1, h.2.2, rfl⟩
theorem covJ_n {w W H pull : Nat} {s : RS} {r x q : Nat} (h : ¬ (pull ≤ x ∧ x - pull < llO w W H)) : covJ w W H pull s r (x + 1) q ↔ covJ w W H pull s r x q := by
  constructor
  · rintro ⟨y, h1, h2, h3, h4, h5⟩
    exact ⟨y, by omega, h2, h3, h4, h5⟩
  · rintro ⟨y, h1, h2⟩
    exact ⟨y, by omega, h2⟩
theorem cv_in {g : Nat → Nat} (hk : gok g) {f q : Nat} (h : cvG g f q = true) : q % 8 < g 0 ∧ q / 8 < g 1 := by
  obtain ⟨r, hr, x, h1, h2, h3, rfl⟩ := dec_iff.mp h
  have hi := row_in hr
  have hn := num_plc hk hi.1 h3
  obtain ⟨a, b, c⟩ := pl_d (c := numO g (plc (g (4 + col g f)) ((rwG g (g (4 + col g f)) f).2.1 r) x)) hk.1.1 hk.1.2
  have e := hn.2.2.1
  rw [e] at a b
  exact ⟨by rw [a]; exact c, by rw [b]; exact pl_in hn.2.1⟩
theorem ly_covI {d v f : Nat} {g : Nat → Nat} {M : Mem} (hs : hS g (M 51)) (hk : gok g) (hO : FOg g M) (v2 : v < 2) (hW : SWm g v f M) {r : Nat} {Q : AV → Mem → Prop} (hr : r < (rwS (labF g) v f (g 0) (g 1)).1) (out : ∀ (M1 : Mem) (x5 : Option AV), R70 M M1 → (∀ c, c < g 0 * g 1 → M1 70 c = bI (dec (covP v (g 0) (g 1) (g 3) (rwS (labF g) v f (g 0) (g 1)) (r + 1) (pl (g 0) c)))) → G l α D cA uX10_covers none (d + 3) Q 147 [some (.inr 50), some (.inl (nI f)), some (.inl (nI v)), some (.inl (nI (llO v (g 0) (g 1)))), some (.inl (nI r)), x5] [] M1) : ∀ (k x : Nat) (M1 : Mem), (rwS (labF g) v f (g 0) (g 1)).2.2.2 r + 2 * g 3 + 1 - x = k → (rwS (labF g) v f (g 0) (g 1)).2.2.1 r ≤ x → x ≤ (rwS (labF g) v f (g 0) (g 1)).2.2.2 r + 2 * g 3 + 1 → R70 M M1 → (∀ c, c < g 0 * g 1 → M1 70 c = bI (dec (covP v (g 0) (g 1) (g 3) (rwS (labF g) v f (g 0) (g 1)) r (pl (g 0) c) ∨ covJ v (g 0) (g 1) (g 3) (rwS (labF g) v f (g 0) (g 1)) r x (pl (g 0) c)))) → G l α D cA uX10_covers none (d + 3) Q 91 [some (.inr 50), some (.inl (nI f)), some (.inl (nI v)), some (.inl (nI (llO v (g 0) (g 1)))), some (.inl (nI r)), some (.inl (nI x - nI (g 3)))] [] M1 := by
  have hB := rwS_RB (F := labF g) (w := v) (f := f) hk.1.2 hk.2.1.2
  have hb := hB.1
  have hp2 := hk.2.2.2.1
  have hN := cel_48 hk
  intro k
  induction k using Nat.strongRecOn with
  | _ k ih => ?_
  intro x M1 hkk hxa hxb hR hC
  have hri := row_in hr
  have hbr := hB.2 r hr
  have hll : llO v (g 0) (g 1) ≤ 8 := by have := hk.1.2; have := hk.2.1.2; unfold llO; split <;> omega
  have hs1 := FT_s (R70_T hR) hs
  have hW1 := SWm_70 hW hR
  refine G_iload dX10_covers_91 rfl ?_
  refine G_aload_n dX10_covers_93 rfl rfl ?_
  refine G_getR (j := 61) dX10_covers_94 fX10_42 rfl rfl ?_
  refine G_iload dX10_covers_97 rfl ?_
  refine G_iald (k := r) (v := (nI ((rwS (labF g) v f (g 0) (g 1)).2.2.2 r))) dX10_covers_99 rfl (vp_in_nI (by omega) (by omega)) (nI_clamp (by omega)) (hW1.2.1.2 r hr).2.2 ?_
  refine G_aload_n dX10_covers_100 rfl rfl ?_
  refine G_getR (j := 51) dX10_covers_101 fX10_7 rfl rfl ?_
  refine G_iconst (v := (nI 3)) dX10_covers_104 (by decide) ?_
  refine G_iald (k := 3) (v := (nI (g 3))) dX10_covers_105 rfl (vp_in_nI (by decide) (by decide)) rfl (hs1.1 3 (by decide)) ?_
  refine G_iadd (v := (nI (((rwS (labF g) v f (g 0) (g 1)).2.2.2 r) + (g 3)))) dX10_covers_106 (nI_add _ _) ?_
  refine G_icmp_gt (tgt := 147) dX10_covers_107 (by decide) (fun h107 => ?_) (fun h107 => ?_)
  · have hxc : ¬ (x ≤ (rwS (labF g) v f (g 0) (g 1)).2.2.2 r + g 3 + g 3) := by
      have q := (sub_gt (by omega) (by omega) (by omega)).mp h107
      omega
    refine out M1 _ hR (fun c hc => ?_)
    rw [hC c hc]
    exact congrArg bI (dec_eq ⟨fun z => covP_s.mpr (z.elim Or.inl (fun ⟨y, y1, y2, y3, y4, y5⟩ => Or.inr ⟨y, y2, y3, y4, y5⟩)), fun z => (covP_s.mp z).elim Or.inl (fun ⟨y, y2, y3, y4, y5⟩ => Or.inr ⟨y, by omega, y2, y3, y4, y5⟩)⟩)
  · have hxc : x ≤ (rwS (labF g) v f (g 0) (g 1)).2.2.2 r + g 3 + g 3 := by
      have q : ¬ ((rwS (labF g) v f (g 0) (g 1)).2.2.2 r + g 3 + g 3 < x) := fun z => h107 ((sub_gt (x := x) (p := g 3) (e := (rwS (labF g) v f (g 0) (g 1)).2.2.2 r + g 3) (by omega) (by omega) (by omega)).mpr z)
      omega
    refine G_iload dX10_covers_110 rfl ?_
    refine G_iconst (v := (nI 0)) dX10_covers_112 (by decide) ?_
    refine G_iload_n dX10_covers_113 rfl rfl ?_
    refine G_iconst (v := (nI 1)) dX10_covers_114 (by decide) ?_
    refine G_isub (v := (nI (llO v (g 0) (g 1) - 1))) dX10_covers_115 (pk_sub (by omega)) ?_
    refine G_callSi (ν := uX10_in) (As := [.inl (nI x - nI (g 3)), .inl (nI 0), .inl (nI (llO v (g 0) (g 1) - 1))]) dX10_covers_116 nX10_85 kX10_in rfl rfl rfl (Nat.le_of_ble_eq_true rfl) (y_inI (lo := 0) (hi := llO v (g 0) (g 1) - 1)) ?_
    rintro _ M8 ⟨rfl, e9⟩
    subst M8
    refine Gb_if_eq (tgt := 141) dX10_covers_119 (by decide) (fun h119 => ?_) (fun h119 => ?_)
    · refine G_iinc (v := (nI (x + 1) - nI (g 3))) (L2 := [some (.inr 50), some (.inl (nI f)), some (.inl (nI v)), some (.inl (nI (llO v (g 0) (g 1)))), some (.inl (nI r)), some (.inl (nI (x + 1) - nI (g 3)))]) dX10_covers_141 rfl sub_1 rfl ?_
      refine G_goto (tgt := 91) dX10_covers_144 (by decide) ?_
      have hx3 : ¬ (g 3 ≤ x ∧ x - g 3 < llO v (g 0) (g 1)) := fun z => dec_niff.mp h119 ((sub_in (by omega) (by omega) (by omega)).mpr (by omega))
      exact ih ((rwS (labF g) v f (g 0) (g 1)).2.2.2 r + 2 * g 3 + 1 - (x + 1)) (by omega) (x + 1) M1 rfl (by omega) (by omega) hR (fun c hc => by rw [hC c hc]; exact congrArg bI (dec_eq (or_congr Iff.rfl (covJ_n hx3).symm)))
    · have hx0 := (sub_in (by omega) (by omega) (by omega)).mp (dec_iff.mp h119)
      have hx1 := hx0.1
      have hx2 : (rwS (labF g) v f (g 0) (g 1)).2.2.1 r ≤ x ∧ x - g 3 ≤ (rwS (labF g) v f (g 0) (g 1)).2.2.2 r + g 3 ∧ x - g 3 < llO v (g 0) (g 1) := ⟨hxa, by omega, by omega⟩
      have hnp := num_plc hk hri.1 hx2.2.2
      refine G_aload_n dX10_covers_122 rfl rfl ?_
      refine G_getR (j := 70) dX10_covers_123 fX10_69 rfl rfl ?_
      refine G_aload_n dX10_covers_126 rfl rfl ?_
      refine G_aload_n dX10_covers_127 rfl rfl ?_
      refine G_getR (j := 59) dX10_covers_128 fX10_36 rfl rfl ?_
      refine G_iload dX10_covers_131 rfl ?_
      refine G_iald (k := r) (v := (nI ((rwS (labF g) v f (g 0) (g 1)).2.1 r))) dX10_covers_133 rfl (vp_in_nI (by omega) (by omega)) (nI_clamp (by omega)) (hW1.2.1.2 r hr).1 ?_
      refine G_iload dX10_covers_134 rfl ?_
      rw [show nI x - nI (g 3) = nI (x - g 3) from pk_sub hx1]
      refine G_callVi (ν := uX10_cellAt) (As := [.inl (nI ((rwS (labF g) v f (g 0) (g 1)).2.1 r)), .inl (nI (x - g 3))]) dX10_covers_136 nX10_175 kX10_cellAt rfl rfl rfl rfl rfl (Nat.le_of_ble_eq_true rfl) (y_cellAt hs1 hk hW1.1 v2 hri.1 hx2.2.2) ?_
      rintro _ M8 ⟨rfl, e9⟩
      subst M8
      refine G_iconst (v := (nI 1)) dX10_covers_139 (by decide) ?_
      refine G_zast (k := numO g (plc v ((rwS (labF g) v f (g 0) (g 1)).2.1 r) (x - g 3))) (v := (nI 1)) dX10_covers_140 rfl (vp_in_nI (by omega) (by omega)) (nI_clamp (by omega)) (by decide) ?_
      rw [show nI (x - g 3) = nI x - nI (g 3) from (pk_sub hx1).symm]
      refine G_iinc (v := (nI (x + 1) - nI (g 3))) (L2 := [some (.inr 50), some (.inl (nI f)), some (.inl (nI v)), some (.inl (nI (llO v (g 0) (g 1)))), some (.inl (nI r)), some (.inl (nI (x + 1) - nI (g 3)))]) dX10_covers_141 rfl sub_1 rfl ?_
      refine G_goto (tgt := 91) dX10_covers_144 (by decide) ?_
      refine ih ((rwS (labF g) v f (g 0) (g 1)).2.2.2 r + 2 * g 3 + 1 - (x + 1)) (by omega) (x + 1) _ rfl (by omega) (by omega) (fun q z => (ms_q z).trans (hR q z)) (fun c hc => ?_)
      rw [ms_o]
      by_cases e : c = numO g (plc v ((rwS (labF g) v f (g 0) (g 1)).2.1 r) (x - g 3))
      · subst e
        rw [upd_k]
        exact bI_dt (Or.inr ((covJ_s hx1 hx2).mpr (Or.inr hnp.2.2.1)))
      · rw [upd_n e, hC c hc]
        refine congrArg bI (dec_eq ⟨fun z => z.elim Or.inl (fun y => Or.inr ((covJ_s hx1 hx2).mpr (Or.inl y))), fun z => z.elim Or.inl (fun y => ((covJ_s hx1 hx2).mp y).elim Or.inr (fun u => absurd ?_ e))⟩)
        rw [← u]
        exact (nm_pl hk.1.1 hk.1.2).symm
theorem ly_covO {d v f : Nat} {g : Nat → Nat} {M : Mem} (hs : hS g (M 51)) (hk : gok g) (hO : FOg g M) (v2 : v < 2) (hW : SWm g v f M) : ∀ (k r : Nat) (M1 : Mem) (x5 : Option AV), (rwS (labF g) v f (g 0) (g 1)).1 - r = k → r ≤ (rwS (labF g) v f (g 0) (g 1)).1 → R70 M M1 → (∀ c, c < g 0 * g 1 → M1 70 c = bI (dec (covP v (g 0) (g 1) (g 3) (rwS (labF g) v f (g 0) (g 1)) r (pl (g 0) c)))) → G l α D cA uX10_covers none (d + 3) (fun _ M1 => R70 M M1 ∧ ∀ c, c < g 0 * g 1 → M1 70 c = bI (dec (covP v (g 0) (g 1) (g 3) (rwS (labF g) v f (g 0) (g 1)) (rwS (labF g) v f (g 0) (g 1)).1 (pl (g 0) c)))) 66 [some (.inr 50), some (.inl (nI f)), some (.inl (nI v)), some (.inl (nI (llO v (g 0) (g 1)))), some (.inl (nI r)), x5] [] M1 := by
  have hB := rwS_RB (F := labF g) (w := v) (f := f) hk.1.2 hk.2.1.2
  have hb := hB.1
  have hp2 := hk.2.2.2.1
  have hN := cel_48 hk
  intro k
  induction k using Nat.strongRecOn with
  | _ k ih => ?_
  intro r M1 x5 hkk hr hR hC
  have hs1 := FT_s (R70_T hR) hs
  have hW1 := SWm_70 hW hR
  refine G_iload dX10_covers_66 rfl ?_
  refine G_aload_n dX10_covers_68 rfl rfl ?_
  refine G_getI (v := (nI ((rwS (labF g) v f (g 0) (g 1)).1))) dX10_covers_69 fX10_172 rfl rfl hW1.2.1.1 ?_
  refine Gn_icmp_ge (tgt := 153) dX10_covers_72 (by decide) (by omega) (by omega) (fun h72 => ?_) (fun h72 => ?_)
  · refine G_vret dX10_covers_153 rfl ?_
    have e : r = (rwS (labF g) v f (g 0) (g 1)).1 := by omega
    subst e
    exact ⟨hR, hC⟩
  · have hrr : r < (rwS (labF g) v f (g 0) (g 1)).1 := by omega
    have hri := row_in hrr
    refine G_aload_n dX10_covers_75 rfl rfl ?_
    refine G_getR (j := 60) dX10_covers_76 fX10_39 rfl rfl ?_
    refine G_iload dX10_covers_79 rfl ?_
    refine G_iald (k := r) (v := (nI ((rwS (labF g) v f (g 0) (g 1)).2.2.1 r))) dX10_covers_81 rfl (vp_in_nI (by omega) (by omega)) (nI_clamp (by omega)) (hW1.2.1.2 r hrr).2.1 ?_
    refine G_aload_n dX10_covers_82 rfl rfl ?_
    refine G_getR (j := 51) dX10_covers_83 fX10_7 rfl rfl ?_
    refine G_iconst (v := (nI 3)) dX10_covers_86 (by decide) ?_
    refine G_iald (k := 3) (v := (nI (g 3))) dX10_covers_87 rfl (vp_in_nI (by decide) (by decide)) rfl (hs1.1 3 (by decide)) ?_
    refine G_isub (v := (nI ((rwS (labF g) v f (g 0) (g 1)).2.2.1 r) - nI (g 3))) dX10_covers_88 rfl ?_
    refine G_istore (L2 := [some (.inr 50), some (.inl (nI f)), some (.inl (nI v)), some (.inl (nI (llO v (g 0) (g 1)))), some (.inl (nI r)), some (.inl (nI ((rwS (labF g) v f (g 0) (g 1)).2.2.1 r) - nI (g 3)))]) dX10_covers_89 (Nat.le_of_ble_eq_true rfl) rfl ?_
    refine ly_covI (M := M1) hs1 hk (FT_O (R70_T hR) hO) v2 hW1 hrr (fun M2 x5 hR2 hC2 => ?_) _ ((rwS (labF g) v f (g 0) (g 1)).2.2.1 r) M1 rfl (Nat.le_refl _) (by omega) (fun _ _ => rfl) (fun c hc => ?_)
    · refine G_iinc (v := (nI (r + 1))) (L2 := [some (.inr 50), some (.inl (nI f)), some (.inl (nI v)), some (.inl (nI (llO v (g 0) (g 1)))), some (.inl (nI (r + 1))), x5]) dX10_covers_147 rfl (nI_1 _) rfl ?_
      refine G_goto (tgt := 66) dX10_covers_150 (by decide) ?_
      exact ih ((rwS (labF g) v f (g 0) (g 1)).1 - (r + 1)) (by omega) (r + 1) M2 _ rfl (by omega) (fun q z => (hR2 q z).trans (hR q z)) hC2
    · rw [hC c hc]
      exact congrArg bI (dec_eq ⟨Or.inl, fun z => z.elim id (fun ⟨y, z1, z2, z3, z4, z5⟩ => absurd z1 (by omega))⟩)
theorem ly_covZ {d v f : Nat} {g : Nat → Nat} {M : Mem} (hs : hS g (M 51)) (hk : gok g) (hO : FOg g M) (v2 : v < 2) (hW : SWm g v f M) : ∀ (k i : Nat) (M1 : Mem), 48 - i = k → i ≤ 48 → R70 M M1 → (∀ c, c < i → M1 70 c = nI 0) → G l α D cA uX10_covers none (d + 3) (fun _ M1 => R70 M M1 ∧ ∀ c, c < g 0 * g 1 → M1 70 c = bI (dec (covP v (g 0) (g 1) (g 3) (rwS (labF g) v f (g 0) (g 1)) (rwS (labF g) v f (g 0) (g 1)).1 (pl (g 0) c)))) 42 [some (.inr 50), some (.inl (nI f)), some (.inl (nI v)), some (.inl (nI (llO v (g 0) (g 1)))), some (.inl (nI i)), none] [] M1 := by
  have hB := rwS_RB (F := labF g) (w := v) (f := f) hk.1.2 hk.2.1.2
  have hb := hB.1
  have hp2 := hk.2.2.2.1
  have hN := cel_48 hk
  intro k
  induction k using Nat.strongRecOn with
  | _ k ih => ?_
  intro i M1 hkk hi hR hC
  refine G_iload dX10_covers_42 rfl ?_
  refine G_bipush (v := (nI 48)) dX10_covers_44 (by decide) ?_
  refine Gn_icmp_ge (tgt := 63) dX10_covers_46 (by decide) (by omega) (by omega) (fun h46 => ?_) (fun h46 => ?_)
  · refine G_iconst (v := (nI 0)) dX10_covers_63 (by decide) ?_
    refine G_istore (L2 := [some (.inr 50), some (.inl (nI f)), some (.inl (nI v)), some (.inl (nI (llO v (g 0) (g 1)))), some (.inl (nI 0)), none]) dX10_covers_64 (Nat.le_of_ble_eq_true rfl) rfl ?_
    exact ly_covO hs hk hO v2 hW _ 0 M1 _ rfl (Nat.zero_le _) hR (fun c hc => by rw [hC c (by omega)]; exact bI_df (fun ⟨r, h, _⟩ => Nat.not_lt_zero _ h))
  · refine G_aload_n dX10_covers_49 rfl rfl ?_
    refine G_getR (j := 70) dX10_covers_50 fX10_69 rfl rfl ?_
    refine G_iload dX10_covers_53 rfl ?_
    refine G_iconst (v := (nI 0)) dX10_covers_55 (by decide) ?_
    refine G_zast (k := i) (v := (nI 0)) dX10_covers_56 rfl (vp_in_nI (by omega) (by omega)) (nI_clamp (by omega)) (by decide) ?_
    refine G_iinc (v := (nI (i + 1))) (L2 := [some (.inr 50), some (.inl (nI f)), some (.inl (nI v)), some (.inl (nI (llO v (g 0) (g 1)))), some (.inl (nI (i + 1))), none]) dX10_covers_57 rfl (nI_1 _) rfl ?_
    refine G_goto (tgt := 42) dX10_covers_60 (by decide) ?_
    refine ih (48 - (i + 1)) (by omega) (i + 1) _ rfl (by omega) (fun q z => (ms_q z).trans (hR q z)) (fun c hc => ?_)
    by_cases z : c = i
    · subst z; rw [ms_o, upd_k]
    · rw [ms_o, upd_n z]; exact hC c (by omega)
theorem y_covers {d f : Nat} {g : Nat → Nat} {M : Mem} (hs : hS g (M 51)) (hk : gok g) (hO : FOg g M) (hf : f < labN g) : Call l α D cA uX10_covers (d + 3) [.inr 50, .inl (nI f)] M (fun _ M1 => FT M M1 ∧ FOg g M1 ∧ ∀ c, c < g 0 * g 1 → M1 70 c = bI (cvG g f (pl (g 0) c))) := by
  refine Call.of kX10_covers.1 (Nat.le_of_ble_eq_true rfl) ?_
  have hc := col_in hk hf
  have v2 : g (4 + col g f) < 2 := by have := (hk.2.2.2.2.1 (col g f) (by omega)).1; omega
  have hn := labN_48 (g := g)
  refine G_aload_n dX10_covers_0 rfl rfl ?_
  refine G_getR (j := 51) dX10_covers_1 fX10_7 rfl rfl ?_
  refine G_iconst (v := (nI 4)) dX10_covers_4 (by decide) ?_
  refine G_aload_n dX10_covers_5 rfl rfl ?_
  refine G_iload_n dX10_covers_6 rfl rfl ?_
  refine G_callVi (ν := uX10_colourOf) (As := [.inl (nI f)]) dX10_covers_7 nX10_218 kX10_colourOf rfl rfl rfl rfl rfl (Nat.le_of_ble_eq_true rfl) (y_colourOf hs hk hO hf) ?_
  rintro _ M8 ⟨rfl, e9⟩
  subst M8
  refine G_iadd (v := (nI (4 + (col g f)))) dX10_covers_10 (nI_add _ _) ?_
  refine G_iald (k := 4 + (col g f)) (v := (nI (g (4 + col g f)))) dX10_covers_11 rfl (vp_in_nI (by omega) (by omega)) (nI_clamp (by omega)) (hs.1 (4 + col g f) (by omega)) ?_
  refine G_istore_n (L2 := [some (.inr 50), some (.inl (nI f)), some (.inl (nI (g (4 + col g f)))), none, none, none]) dX10_covers_12 rfl (Nat.le_of_ble_eq_true rfl) rfl ?_
  refine G_aload_n dX10_covers_13 rfl rfl ?_
  refine G_iload_n dX10_covers_14 rfl rfl ?_
  refine G_iload_n dX10_covers_15 rfl rfl ?_
  refine G_callVv (ν := uX10_laysRows) (As := [.inl (nI f), .inl (nI (g (4 + col g f)))]) dX10_covers_16 nX10_205 kX10_laysRows rfl rfl rfl rfl rfl (Nat.le_of_ble_eq_true rfl) (y_laysRows hs hk hO v2 hf) ?_
  rintro _ M2 ⟨hF2, hO2, hW2⟩
  have hs2 := FT_s hF2 hs
  refine G_iload_n dX10_covers_19 rfl rfl ?_
  refine Gn_if_ne (tgt := 32) dX10_covers_20 (by decide) (by omega) (fun h20 => ?_) (fun h20 => ?_)
  · refine G_aload_n dX10_covers_32 rfl rfl ?_
    refine G_getR (j := 51) dX10_covers_33 fX10_7 rfl rfl ?_
    refine G_iconst (v := (nI 1)) dX10_covers_36 (by decide) ?_
    refine G_iald (k := 1) (v := (nI (llO (g (4 + col g f)) (g 0) (g 1)))) dX10_covers_37 rfl (vp_in_nI (by decide) (by decide)) rfl (by rw [hs2.1 1 (by decide), llO, if_neg h20]) ?_
    refine G_istore_n (L2 := [some (.inr 50), some (.inl (nI f)), some (.inl (nI (g (4 + col g f)))), some (.inl (nI (llO (g (4 + col g f)) (g 0) (g 1)))), none, none]) dX10_covers_38 rfl (Nat.le_of_ble_eq_true rfl) rfl ?_
    refine G_iconst (v := (nI 0)) dX10_covers_39 (by decide) ?_
    refine G_istore (L2 := [some (.inr 50), some (.inl (nI f)), some (.inl (nI (g (4 + col g f)))), some (.inl (nI (llO (g (4 + col g f)) (g 0) (g 1)))), some (.inl (nI 0)), none]) dX10_covers_40 (Nat.le_of_ble_eq_true rfl) rfl ?_
    refine G_mono ?_ (ly_covZ hs2 hk hO2 v2 hW2 _ 0 M2 rfl (by decide) (fun _ _ => rfl) (fun c hc => absurd hc (Nat.not_lt_zero _)))
    rintro _ M3 ⟨hR3, hC3⟩
    exact ⟨FT_t hF2 (R70_T hR3), FT_O (R70_T hR3) hO2, hC3⟩
  · refine G_aload_n dX10_covers_23 rfl rfl ?_
    refine G_getR (j := 51) dX10_covers_24 fX10_7 rfl rfl ?_
    refine G_iconst (v := (nI 0)) dX10_covers_27 (by decide) ?_
    refine G_iald (k := 0) (v := (nI (llO (g (4 + col g f)) (g 0) (g 1)))) dX10_covers_28 rfl (vp_in_nI (by decide) (by decide)) rfl (by rw [hs2.1 0 (by decide), llO, if_pos h20]) ?_
    refine G_goto (tgt := 38) dX10_covers_29 (by decide) ?_
    refine G_istore_n (L2 := [some (.inr 50), some (.inl (nI f)), some (.inl (nI (g (4 + col g f)))), some (.inl (nI (llO (g (4 + col g f)) (g 0) (g 1)))), none, none]) dX10_covers_38 rfl (Nat.le_of_ble_eq_true rfl) rfl ?_
    refine G_iconst (v := (nI 0)) dX10_covers_39 (by decide) ?_
    refine G_istore (L2 := [some (.inr 50), some (.inl (nI f)), some (.inl (nI (g (4 + col g f)))), some (.inl (nI (llO (g (4 + col g f)) (g 0) (g 1)))), some (.inl (nI 0)), none]) dX10_covers_40 (Nat.le_of_ble_eq_true rfl) rfl ?_
    refine G_mono ?_ (ly_covZ hs2 hk hO2 v2 hW2 _ 0 M2 rfl (by decide) (fun _ _ => rfl) (fun c hc => absurd hc (Nat.not_lt_zero _)))
    rintro _ M3 ⟨hR3, hC3⟩
    exact ⟨FT_t hF2 (R70_T hR3), FT_O (R70_T hR3) hO2, hC3⟩
theorem cb_4 {g : Nat → Nat} (hk : gok g) {f : Nat} (hf : f < labN g) : nI (fb_ct (fun c => cvG g f (pl (g 0) c)) (g 0 * g 1)) = fldA g f 4 := by
  rw [ct_pl (P := fun q => cvG g f q) hk (fun p _ h => cv_in hk h)]
  rfl
theorem cb_6 {g : Nat → Nat} (hk : gok g) {f : Nat} (hf : f < labN g) : nI (fb_ct (fun c => (cvG g f (pl (g 0) c) && decide (g (12 + pl (g 0) c) = 0))) (g 0 * g 1)) = fldA g f 6 := by
  rw [ct_pl (P := fun q => cvG g f q && decide (g (12 + q) = 0)) hk (fun p _ h => by rw [Bool.and_eq_true] at h; exact cv_in hk h.1)]
  rfl
theorem cb_5 {g : Nat → Nat} (hk : gok g) {f : Nat} (hf : f < labN g) : nI (fb_ct (fun c => (cvG g f (pl (g 0) c) && decide (g (12 + pl (g 0) c) ≠ 0 ∧ g (12 + pl (g 0) c) ≠ col g f))) (g 0 * g 1)) = fldA g f 5 := by
  have hc := col_in hk hf
  rw [ct_pl (P := fun q => cvG g f q && decide (g (12 + q) ≠ 0 ∧ g (12 + q) ≠ col g f)) hk (fun p _ h => by rw [Bool.and_eq_true] at h; exact cv_in hk h.1)]
  have key : ∀ n, fb_ct (cvG g f) n = fb_ct (fun q => cvG g f q && decide (g (12 + q) ≠ 0 ∧ g (12 + q) ≠ col g f)) n + fb_ct (fun q => cvG g f q && decide (g (12 + q) = 0)) n + fb_ct (fun q => cvG g f q && decide (g (12 + q) = col g f)) n := by
    intro n
    induction n with
    | zero => rfl
    | succ n ih =>
      rw [fb_ct_succ, fb_ct_succ, fb_ct_succ, fb_ct_succ, ih]
      cases cvG g f n with
      | false => simp
      | true =>
        simp only [Bool.true_and, decide_eq_true_eq, if_true]
        by_cases z1 : g (12 + n) = 0
        · rw [if_neg (by omega), if_pos z1, if_neg (by omega)]; omega
        · by_cases z2 : g (12 + n) = col g f
          · rw [if_neg (by omega), if_neg z1, if_pos z2]; omega
          · rw [if_pos ⟨z1, z2⟩, if_neg z1, if_neg z2]; omega
  have k := key 48
  show _ = nI (fb_ct (cvG g f) 48) - nI (cvN g f 0) - nI (cvN g f (col g f))
  rw [pk_sub (by unfold cvN; omega), pk_sub (by unfold cvN; omega)]
  refine congrArg nI ?_
  unfold cvN
  omega
theorem ly_cb4 {d f : Nat} {g : Nat → Nat} {M : Mem} (hs : hS g (M 51)) (hk : gok g) (hf : f < labN g) (hC : ∀ c, c < g 0 * g 1 → M 70 c = bI (cvG g f (pl (g 0) c))) : ∀ (k c : Nat) (x6 x7 : Option AV), g 0 * g 1 - c = k → c ≤ g 0 * g 1 → G l α D cA uX10_coveredBy none (d + 4) (fun q M1 => q = .inl (nI (fb_ct (fun c => cvG g f (pl (g 0) c)) (g 0 * g 1))) ∧ M1 = M) 17 [some (.inr 50), some (.inl (nI f)), some (.inl (nI 4)), some (.inl (nI (col g f))), some (.inl (nI (fb_ct (fun c => cvG g f (pl (g 0) c)) c))), some (.inl (nI c)), x6, x7] [] M := by
  have hN := cel_48 hk
  have hc1 := col_in hk hf
  intro k
  induction k using Nat.strongRecOn with
  | _ k ih => ?_
  intro c x6 x7 hkk hc
  have hct := fb_ct_le (fun c => cvG g f (pl (g 0) c)) c
  refine G_iload dX10_coveredBy_17 rfl ?_
  refine G_aload_n dX10_coveredBy_19 rfl rfl ?_
  refine G_callVi (ν := uX10_cells) (As := []) dX10_coveredBy_20 nX10_151 kX10_cells rfl rfl rfl rfl rfl (Nat.le_of_ble_eq_true rfl) (y_cells hs hk) ?_
  rintro _ M8 ⟨rfl, e9⟩
  subst M8
  refine Gn_icmp_ge (tgt := 105) dX10_coveredBy_23 (by decide) (by omega) (by omega) (fun h23 => ?_) (fun h23 => ?_)
  · refine G_iload dX10_coveredBy_105 rfl ?_
    refine G_iret dX10_coveredBy_107 rfl rfl ?_
    have e : c = g 0 * g 1 := by omega
    subst e
    exact ⟨rfl, rfl⟩
  · have hcN : c < g 0 * g 1 := by omega
    have hb9 := (hk.2.2.2.2.2 _ (pl_g hk hcN)).1
    refine G_aload_n dX10_coveredBy_26 rfl rfl ?_
    refine G_getR (j := 51) dX10_coveredBy_27 fX10_7 rfl rfl ?_
    refine G_bipush (v := (nI 12)) dX10_coveredBy_30 (by decide) ?_
    refine G_iload dX10_coveredBy_32 rfl ?_
    refine G_iadd (v := (nI (12 + c))) dX10_coveredBy_34 (nI_add _ _) ?_
    refine G_iald (k := 12 + c) (v := (nI (g (12 + pl (g 0) c)))) dX10_coveredBy_35 rfl (vp_in_nI (by omega) (by omega)) (nI_clamp (by omega)) (hs.2 c hcN) ?_
    refine G_istore (L2 := [some (.inr 50), some (.inl (nI f)), some (.inl (nI 4)), some (.inl (nI (col g f))), some (.inl (nI (fb_ct (fun c => cvG g f (pl (g 0) c)) c))), some (.inl (nI c)), some (.inl (nI (g (12 + pl (g 0) c)))), x7]) dX10_coveredBy_36 (Nat.le_of_ble_eq_true rfl) rfl ?_
    refine G_iload_n dX10_coveredBy_38 rfl rfl ?_
    refine G_iconst (v := (nI 4)) dX10_coveredBy_39 (by decide) ?_
    refine Gn_icmp_eq (tgt := 67) dX10_coveredBy_40 (by decide) (by omega) (by omega) (fun h40 => ?_) (fun h40 => ?_)
    · refine G_iconst (v := (nI 1)) dX10_coveredBy_67 (by decide) ?_
      refine G_goto (tgt := 72) dX10_coveredBy_68 (by decide) ?_
      refine G_istore (L2 := [some (.inr 50), some (.inl (nI f)), some (.inl (nI 4)), some (.inl (nI (col g f))), some (.inl (nI (fb_ct (fun c => cvG g f (pl (g 0) c)) c))), some (.inl (nI c)), some (.inl (nI (g (12 + pl (g 0) c)))), some (.inl (nI 1))]) dX10_coveredBy_72 (Nat.le_of_ble_eq_true rfl) rfl ?_
      refine G_iload dX10_coveredBy_74 rfl ?_
      refine G_aload_n dX10_coveredBy_76 rfl rfl ?_
      refine G_getR (j := 70) dX10_coveredBy_77 fX10_69 rfl rfl ?_
      refine G_iload dX10_coveredBy_80 rfl ?_
      refine G_zald (k := c) (v := (bI (cvG g f (pl (g 0) c)))) dX10_coveredBy_82 rfl (vp_in_nI (by omega) (by omega)) (nI_clamp (by omega)) (hC c hcN) ?_
      refine Gb_if_eq (tgt := 95) dX10_coveredBy_83 (by decide) (fun h83 => ?_) (fun h83 => ?_)
      · refine G_iconst (v := (nI 0)) dX10_coveredBy_95 (by decide) ?_
        refine G_iadd (v := (nI (fb_ct (fun c => cvG g f (pl (g 0) c)) (c + 1)))) dX10_coveredBy_96 (by rw [ct_s0 (P := (fun c => cvG g f (pl (g 0) c))) (h83)]; exact nI_add _ _) ?_
        refine G_istore (L2 := [some (.inr 50), some (.inl (nI f)), some (.inl (nI 4)), some (.inl (nI (col g f))), some (.inl (nI (fb_ct (fun c => cvG g f (pl (g 0) c)) (c + 1)))), some (.inl (nI c)), some (.inl (nI (g (12 + pl (g 0) c)))), some (.inl (nI 1))]) dX10_coveredBy_97 (Nat.le_of_ble_eq_true rfl) rfl ?_
        refine G_iinc (v := (nI (c + 1))) (L2 := [some (.inr 50), some (.inl (nI f)), some (.inl (nI 4)), some (.inl (nI (col g f))), some (.inl (nI (fb_ct (fun c => cvG g f (pl (g 0) c)) (c + 1)))), some (.inl (nI (c + 1))), some (.inl (nI (g (12 + pl (g 0) c)))), some (.inl (nI 1))]) dX10_coveredBy_99 rfl (nI_1 _) rfl ?_
        refine G_goto (tgt := 17) dX10_coveredBy_102 (by decide) ?_
        exact ih (g 0 * g 1 - (c + 1)) (by omega) (c + 1) _ _ rfl (by omega)
      · refine G_iload dX10_coveredBy_86 rfl ?_
        refine Gn_if_eq (tgt := 95) dX10_coveredBy_88 (by decide) (by omega) (fun h88 => ?_) (fun h88 => ?_)
        · omega
        · refine G_iconst (v := (nI 1)) dX10_coveredBy_91 (by decide) ?_
          refine G_goto (tgt := 96) dX10_coveredBy_92 (by decide) ?_
          refine G_iadd (v := (nI (fb_ct (fun c => cvG g f (pl (g 0) c)) (c + 1)))) dX10_coveredBy_96 (by rw [ct_s1 (P := (fun c => cvG g f (pl (g 0) c))) (h83)]; exact nI_add _ _) ?_
          refine G_istore (L2 := [some (.inr 50), some (.inl (nI f)), some (.inl (nI 4)), some (.inl (nI (col g f))), some (.inl (nI (fb_ct (fun c => cvG g f (pl (g 0) c)) (c + 1)))), some (.inl (nI c)), some (.inl (nI (g (12 + pl (g 0) c)))), some (.inl (nI 1))]) dX10_coveredBy_97 (Nat.le_of_ble_eq_true rfl) rfl ?_
          refine G_iinc (v := (nI (c + 1))) (L2 := [some (.inr 50), some (.inl (nI f)), some (.inl (nI 4)), some (.inl (nI (col g f))), some (.inl (nI (fb_ct (fun c => cvG g f (pl (g 0) c)) (c + 1)))), some (.inl (nI (c + 1))), some (.inl (nI (g (12 + pl (g 0) c)))), some (.inl (nI 1))]) dX10_coveredBy_99 rfl (nI_1 _) rfl ?_
          refine G_goto (tgt := 17) dX10_coveredBy_102 (by decide) ?_
          exact ih (g 0 * g 1 - (c + 1)) (by omega) (c + 1) _ _ rfl (by omega)
    · omega
theorem y_cb4 {d f : Nat} {g : Nat → Nat} {M : Mem} (hs : hS g (M 51)) (hk : gok g) (hO : FOg g M) (hf : f < labN g) : Call l α D cA uX10_coveredBy (d + 4) [.inr 50, .inl (nI f), .inl (nI 4)] M (fun q M1 => q = .inl (fldA g f 4) ∧ FT M M1 ∧ FOg g M1) := by
  refine Call.of kX10_coveredBy.1 (Nat.le_of_ble_eq_true rfl) ?_
  have hc1 := col_in hk hf
  refine G_aload_n dX10_coveredBy_0 rfl rfl ?_
  refine G_iload_n dX10_coveredBy_1 rfl rfl ?_
  refine G_callVi (ν := uX10_colourOf) (As := [.inl (nI f)]) dX10_coveredBy_2 nX10_218 kX10_colourOf rfl rfl rfl rfl rfl (Nat.le_of_ble_eq_true rfl) (y_colourOf hs hk hO hf) ?_
  rintro _ M8 ⟨rfl, e9⟩
  subst M8
  refine G_istore_n (L2 := [some (.inr 50), some (.inl (nI f)), some (.inl (nI 4)), some (.inl (nI (col g f))), none, none, none, none]) dX10_coveredBy_5 rfl (Nat.le_of_ble_eq_true rfl) rfl ?_
  refine G_aload_n dX10_coveredBy_6 rfl rfl ?_
  refine G_iload_n dX10_coveredBy_7 rfl rfl ?_
  refine G_callVv (ν := uX10_covers) (As := [.inl (nI f)]) dX10_coveredBy_8 nX10_221 kX10_covers rfl rfl rfl rfl rfl (Nat.le_of_ble_eq_true rfl) (y_covers hs hk hO hf) ?_
  rintro _ M2 ⟨hF2, hO2, hC2⟩
  refine G_iconst (v := (nI 0)) dX10_coveredBy_11 (by decide) ?_
  refine G_istore (L2 := [some (.inr 50), some (.inl (nI f)), some (.inl (nI 4)), some (.inl (nI (col g f))), some (.inl (nI 0)), none, none, none]) dX10_coveredBy_12 (Nat.le_of_ble_eq_true rfl) rfl ?_
  refine G_iconst (v := (nI 0)) dX10_coveredBy_14 (by decide) ?_
  refine G_istore (L2 := [some (.inr 50), some (.inl (nI f)), some (.inl (nI 4)), some (.inl (nI (col g f))), some (.inl (nI 0)), some (.inl (nI 0)), none, none]) dX10_coveredBy_15 (Nat.le_of_ble_eq_true rfl) rfl ?_
  refine G_mono ?_ (ly_cb4 (FT_s hF2 hs) hk hf hC2 _ 0 _ _ rfl (Nat.zero_le _))
  rintro _ M3 ⟨rfl, rfl⟩
  exact ⟨by rw [cb_4 hk hf], hF2, hO2⟩
theorem ly_cb5 {d f : Nat} {g : Nat → Nat} {M : Mem} (hs : hS g (M 51)) (hk : gok g) (hf : f < labN g) (hC : ∀ c, c < g 0 * g 1 → M 70 c = bI (cvG g f (pl (g 0) c))) : ∀ (k c : Nat) (x6 x7 : Option AV), g 0 * g 1 - c = k → c ≤ g 0 * g 1 → G l α D cA uX10_coveredBy none (d + 4) (fun q M1 => q = .inl (nI (fb_ct (fun c => (cvG g f (pl (g 0) c) && decide (g (12 + pl (g 0) c) ≠ 0 ∧ g (12 + pl (g 0) c) ≠ col g f))) (g 0 * g 1))) ∧ M1 = M) 17 [some (.inr 50), some (.inl (nI f)), some (.inl (nI 5)), some (.inl (nI (col g f))), some (.inl (nI (fb_ct (fun c => (cvG g f (pl (g 0) c) && decide (g (12 + pl (g 0) c) ≠ 0 ∧ g (12 + pl (g 0) c) ≠ col g f))) c))), some (.inl (nI c)), x6, x7] [] M := by
  have hN := cel_48 hk
  have hc1 := col_in hk hf
  intro k
  induction k using Nat.strongRecOn with
  | _ k ih => ?_
  intro c x6 x7 hkk hc
  have hct := fb_ct_le (fun c => (cvG g f (pl (g 0) c) && decide (g (12 + pl (g 0) c) ≠ 0 ∧ g (12 + pl (g 0) c) ≠ col g f))) c
  refine G_iload dX10_coveredBy_17 rfl ?_
  refine G_aload_n dX10_coveredBy_19 rfl rfl ?_
  refine G_callVi (ν := uX10_cells) (As := []) dX10_coveredBy_20 nX10_151 kX10_cells rfl rfl rfl rfl rfl (Nat.le_of_ble_eq_true rfl) (y_cells hs hk) ?_
  rintro _ M8 ⟨rfl, e9⟩
  subst M8
  refine Gn_icmp_ge (tgt := 105) dX10_coveredBy_23 (by decide) (by omega) (by omega) (fun h23 => ?_) (fun h23 => ?_)
  · refine G_iload dX10_coveredBy_105 rfl ?_
    refine G_iret dX10_coveredBy_107 rfl rfl ?_
    have e : c = g 0 * g 1 := by omega
    subst e
    exact ⟨rfl, rfl⟩
  · have hcN : c < g 0 * g 1 := by omega
    have hb9 := (hk.2.2.2.2.2 _ (pl_g hk hcN)).1
    refine G_aload_n dX10_coveredBy_26 rfl rfl ?_
    refine G_getR (j := 51) dX10_coveredBy_27 fX10_7 rfl rfl ?_
    refine G_bipush (v := (nI 12)) dX10_coveredBy_30 (by decide) ?_
    refine G_iload dX10_coveredBy_32 rfl ?_
    refine G_iadd (v := (nI (12 + c))) dX10_coveredBy_34 (nI_add _ _) ?_
    refine G_iald (k := 12 + c) (v := (nI (g (12 + pl (g 0) c)))) dX10_coveredBy_35 rfl (vp_in_nI (by omega) (by omega)) (nI_clamp (by omega)) (hs.2 c hcN) ?_
    refine G_istore (L2 := [some (.inr 50), some (.inl (nI f)), some (.inl (nI 5)), some (.inl (nI (col g f))), some (.inl (nI (fb_ct (fun c => (cvG g f (pl (g 0) c) && decide (g (12 + pl (g 0) c) ≠ 0 ∧ g (12 + pl (g 0) c) ≠ col g f))) c))), some (.inl (nI c)), some (.inl (nI (g (12 + pl (g 0) c)))), x7]) dX10_coveredBy_36 (Nat.le_of_ble_eq_true rfl) rfl ?_
    refine G_iload_n dX10_coveredBy_38 rfl rfl ?_
    refine G_iconst (v := (nI 4)) dX10_coveredBy_39 (by decide) ?_
    refine Gn_icmp_eq (tgt := 67) dX10_coveredBy_40 (by decide) (by omega) (by omega) (fun h40 => ?_) (fun h40 => ?_)
    · omega
    · refine G_iload_n dX10_coveredBy_43 rfl rfl ?_
      refine G_iconst (v := (nI 5)) dX10_coveredBy_44 (by decide) ?_
      refine Gn_icmp_ne (tgt := 62) dX10_coveredBy_45 (by decide) (by omega) (by omega) (fun h45 => ?_) (fun h45 => ?_)
      · omega
      · refine G_iload dX10_coveredBy_48 rfl ?_
        refine Gn_if_le (tgt := 71) dX10_coveredBy_50 (by decide) (by omega) (fun h50 => ?_) (fun h50 => ?_)
        · refine G_iconst (v := (nI 0)) dX10_coveredBy_71 (by decide) ?_
          refine G_istore (L2 := [some (.inr 50), some (.inl (nI f)), some (.inl (nI 5)), some (.inl (nI (col g f))), some (.inl (nI (fb_ct (fun c => (cvG g f (pl (g 0) c) && decide (g (12 + pl (g 0) c) ≠ 0 ∧ g (12 + pl (g 0) c) ≠ col g f))) c))), some (.inl (nI c)), some (.inl (nI (g (12 + pl (g 0) c)))), some (.inl (nI 0))]) dX10_coveredBy_72 (Nat.le_of_ble_eq_true rfl) rfl ?_
          refine G_iload dX10_coveredBy_74 rfl ?_
          refine G_aload_n dX10_coveredBy_76 rfl rfl ?_
          refine G_getR (j := 70) dX10_coveredBy_77 fX10_69 rfl rfl ?_
          refine G_iload dX10_coveredBy_80 rfl ?_
          refine G_zald (k := c) (v := (bI (cvG g f (pl (g 0) c)))) dX10_coveredBy_82 rfl (vp_in_nI (by omega) (by omega)) (nI_clamp (by omega)) (hC c hcN) ?_
          refine Gb_if_eq (tgt := 95) dX10_coveredBy_83 (by decide) (fun h83 => ?_) (fun h83 => ?_)
          · refine G_iconst (v := (nI 0)) dX10_coveredBy_95 (by decide) ?_
            refine G_iadd (v := (nI (fb_ct (fun c => (cvG g f (pl (g 0) c) && decide (g (12 + pl (g 0) c) ≠ 0 ∧ g (12 + pl (g 0) c) ≠ col g f))) (c + 1)))) dX10_coveredBy_96 (by rw [ct_s0 (P := (fun c => (cvG g f (pl (g 0) c) && decide (g (12 + pl (g 0) c) ≠ 0 ∧ g (12 + pl (g 0) c) ≠ col g f)))) (by show (cvG g f (pl (g 0) c) && decide (g (12 + pl (g 0) c) ≠ 0 ∧ g (12 + pl (g 0) c) ≠ col g f)) = false; rw [h83]; rfl)]; exact nI_add _ _) ?_
            refine G_istore (L2 := [some (.inr 50), some (.inl (nI f)), some (.inl (nI 5)), some (.inl (nI (col g f))), some (.inl (nI (fb_ct (fun c => (cvG g f (pl (g 0) c) && decide (g (12 + pl (g 0) c) ≠ 0 ∧ g (12 + pl (g 0) c) ≠ col g f))) (c + 1)))), some (.inl (nI c)), some (.inl (nI (g (12 + pl (g 0) c)))), some (.inl (nI 0))]) dX10_coveredBy_97 (Nat.le_of_ble_eq_true rfl) rfl ?_
            refine G_iinc (v := (nI (c + 1))) (L2 := [some (.inr 50), some (.inl (nI f)), some (.inl (nI 5)), some (.inl (nI (col g f))), some (.inl (nI (fb_ct (fun c => (cvG g f (pl (g 0) c) && decide (g (12 + pl (g 0) c) ≠ 0 ∧ g (12 + pl (g 0) c) ≠ col g f))) (c + 1)))), some (.inl (nI (c + 1))), some (.inl (nI (g (12 + pl (g 0) c)))), some (.inl (nI 0))]) dX10_coveredBy_99 rfl (nI_1 _) rfl ?_
            refine G_goto (tgt := 17) dX10_coveredBy_102 (by decide) ?_
            exact ih (g 0 * g 1 - (c + 1)) (by omega) (c + 1) _ _ rfl (by omega)
          · refine G_iload dX10_coveredBy_86 rfl ?_
            refine Gn_if_eq (tgt := 95) dX10_coveredBy_88 (by decide) (by omega) (fun h88 => ?_) (fun h88 => ?_)
            · refine G_iconst (v := (nI 0)) dX10_coveredBy_95 (by decide) ?_
              refine G_iadd (v := (nI (fb_ct (fun c => (cvG g f (pl (g 0) c) && decide (g (12 + pl (g 0) c) ≠ 0 ∧ g (12 + pl (g 0) c) ≠ col g f))) (c + 1)))) dX10_coveredBy_96 (by rw [ct_s0 (P := (fun c => (cvG g f (pl (g 0) c) && decide (g (12 + pl (g 0) c) ≠ 0 ∧ g (12 + pl (g 0) c) ≠ col g f)))) (by show (cvG g f (pl (g 0) c) && decide (g (12 + pl (g 0) c) ≠ 0 ∧ g (12 + pl (g 0) c) ≠ col g f)) = false; rw [decide_eq_false (by omega), Bool.and_false])]; exact nI_add _ _) ?_
              refine G_istore (L2 := [some (.inr 50), some (.inl (nI f)), some (.inl (nI 5)), some (.inl (nI (col g f))), some (.inl (nI (fb_ct (fun c => (cvG g f (pl (g 0) c) && decide (g (12 + pl (g 0) c) ≠ 0 ∧ g (12 + pl (g 0) c) ≠ col g f))) (c + 1)))), some (.inl (nI c)), some (.inl (nI (g (12 + pl (g 0) c)))), some (.inl (nI 0))]) dX10_coveredBy_97 (Nat.le_of_ble_eq_true rfl) rfl ?_
              refine G_iinc (v := (nI (c + 1))) (L2 := [some (.inr 50), some (.inl (nI f)), some (.inl (nI 5)), some (.inl (nI (col g f))), some (.inl (nI (fb_ct (fun c => (cvG g f (pl (g 0) c) && decide (g (12 + pl (g 0) c) ≠ 0 ∧ g (12 + pl (g 0) c) ≠ col g f))) (c + 1)))), some (.inl (nI (c + 1))), some (.inl (nI (g (12 + pl (g 0) c)))), some (.inl (nI 0))]) dX10_coveredBy_99 rfl (nI_1 _) rfl ?_
              refine G_goto (tgt := 17) dX10_coveredBy_102 (by decide) ?_
              exact ih (g 0 * g 1 - (c + 1)) (by omega) (c + 1) _ _ rfl (by omega)
            · omega
        · refine G_iload dX10_coveredBy_53 rfl ?_
          refine G_iload_n dX10_coveredBy_55 rfl rfl ?_
          refine Gn_icmp_eq (tgt := 71) dX10_coveredBy_56 (by decide) (by omega) (by omega) (fun h56 => ?_) (fun h56 => ?_)
          · refine G_iconst (v := (nI 0)) dX10_coveredBy_71 (by decide) ?_
            refine G_istore (L2 := [some (.inr 50), some (.inl (nI f)), some (.inl (nI 5)), some (.inl (nI (col g f))), some (.inl (nI (fb_ct (fun c => (cvG g f (pl (g 0) c) && decide (g (12 + pl (g 0) c) ≠ 0 ∧ g (12 + pl (g 0) c) ≠ col g f))) c))), some (.inl (nI c)), some (.inl (nI (g (12 + pl (g 0) c)))), some (.inl (nI 0))]) dX10_coveredBy_72 (Nat.le_of_ble_eq_true rfl) rfl ?_
            refine G_iload dX10_coveredBy_74 rfl ?_
            refine G_aload_n dX10_coveredBy_76 rfl rfl ?_
            refine G_getR (j := 70) dX10_coveredBy_77 fX10_69 rfl rfl ?_
            refine G_iload dX10_coveredBy_80 rfl ?_
            refine G_zald (k := c) (v := (bI (cvG g f (pl (g 0) c)))) dX10_coveredBy_82 rfl (vp_in_nI (by omega) (by omega)) (nI_clamp (by omega)) (hC c hcN) ?_
            refine Gb_if_eq (tgt := 95) dX10_coveredBy_83 (by decide) (fun h83 => ?_) (fun h83 => ?_)
            · refine G_iconst (v := (nI 0)) dX10_coveredBy_95 (by decide) ?_
              refine G_iadd (v := (nI (fb_ct (fun c => (cvG g f (pl (g 0) c) && decide (g (12 + pl (g 0) c) ≠ 0 ∧ g (12 + pl (g 0) c) ≠ col g f))) (c + 1)))) dX10_coveredBy_96 (by rw [ct_s0 (P := (fun c => (cvG g f (pl (g 0) c) && decide (g (12 + pl (g 0) c) ≠ 0 ∧ g (12 + pl (g 0) c) ≠ col g f)))) (by show (cvG g f (pl (g 0) c) && decide (g (12 + pl (g 0) c) ≠ 0 ∧ g (12 + pl (g 0) c) ≠ col g f)) = false; rw [h83]; rfl)]; exact nI_add _ _) ?_
              refine G_istore (L2 := [some (.inr 50), some (.inl (nI f)), some (.inl (nI 5)), some (.inl (nI (col g f))), some (.inl (nI (fb_ct (fun c => (cvG g f (pl (g 0) c) && decide (g (12 + pl (g 0) c) ≠ 0 ∧ g (12 + pl (g 0) c) ≠ col g f))) (c + 1)))), some (.inl (nI c)), some (.inl (nI (g (12 + pl (g 0) c)))), some (.inl (nI 0))]) dX10_coveredBy_97 (Nat.le_of_ble_eq_true rfl) rfl ?_
              refine G_iinc (v := (nI (c + 1))) (L2 := [some (.inr 50), some (.inl (nI f)), some (.inl (nI 5)), some (.inl (nI (col g f))), some (.inl (nI (fb_ct (fun c => (cvG g f (pl (g 0) c) && decide (g (12 + pl (g 0) c) ≠ 0 ∧ g (12 + pl (g 0) c) ≠ col g f))) (c + 1)))), some (.inl (nI (c + 1))), some (.inl (nI (g (12 + pl (g 0) c)))), some (.inl (nI 0))]) dX10_coveredBy_99 rfl (nI_1 _) rfl ?_
              refine G_goto (tgt := 17) dX10_coveredBy_102 (by decide) ?_
              exact ih (g 0 * g 1 - (c + 1)) (by omega) (c + 1) _ _ rfl (by omega)
            · refine G_iload dX10_coveredBy_86 rfl ?_
              refine Gn_if_eq (tgt := 95) dX10_coveredBy_88 (by decide) (by omega) (fun h88 => ?_) (fun h88 => ?_)
              · refine G_iconst (v := (nI 0)) dX10_coveredBy_95 (by decide) ?_
                refine G_iadd (v := (nI (fb_ct (fun c => (cvG g f (pl (g 0) c) && decide (g (12 + pl (g 0) c) ≠ 0 ∧ g (12 + pl (g 0) c) ≠ col g f))) (c + 1)))) dX10_coveredBy_96 (by rw [ct_s0 (P := (fun c => (cvG g f (pl (g 0) c) && decide (g (12 + pl (g 0) c) ≠ 0 ∧ g (12 + pl (g 0) c) ≠ col g f)))) (by show (cvG g f (pl (g 0) c) && decide (g (12 + pl (g 0) c) ≠ 0 ∧ g (12 + pl (g 0) c) ≠ col g f)) = false; rw [decide_eq_false (by omega), Bool.and_false])]; exact nI_add _ _) ?_
                refine G_istore (L2 := [some (.inr 50), some (.inl (nI f)), some (.inl (nI 5)), some (.inl (nI (col g f))), some (.inl (nI (fb_ct (fun c => (cvG g f (pl (g 0) c) && decide (g (12 + pl (g 0) c) ≠ 0 ∧ g (12 + pl (g 0) c) ≠ col g f))) (c + 1)))), some (.inl (nI c)), some (.inl (nI (g (12 + pl (g 0) c)))), some (.inl (nI 0))]) dX10_coveredBy_97 (Nat.le_of_ble_eq_true rfl) rfl ?_
                refine G_iinc (v := (nI (c + 1))) (L2 := [some (.inr 50), some (.inl (nI f)), some (.inl (nI 5)), some (.inl (nI (col g f))), some (.inl (nI (fb_ct (fun c => (cvG g f (pl (g 0) c) && decide (g (12 + pl (g 0) c) ≠ 0 ∧ g (12 + pl (g 0) c) ≠ col g f))) (c + 1)))), some (.inl (nI (c + 1))), some (.inl (nI (g (12 + pl (g 0) c)))), some (.inl (nI 0))]) dX10_coveredBy_99 rfl (nI_1 _) rfl ?_
                refine G_goto (tgt := 17) dX10_coveredBy_102 (by decide) ?_
                exact ih (g 0 * g 1 - (c + 1)) (by omega) (c + 1) _ _ rfl (by omega)
              · omega
          · refine G_goto (tgt := 67) dX10_coveredBy_59 (by decide) ?_
            refine G_iconst (v := (nI 1)) dX10_coveredBy_67 (by decide) ?_
            refine G_goto (tgt := 72) dX10_coveredBy_68 (by decide) ?_
            refine G_istore (L2 := [some (.inr 50), some (.inl (nI f)), some (.inl (nI 5)), some (.inl (nI (col g f))), some (.inl (nI (fb_ct (fun c => (cvG g f (pl (g 0) c) && decide (g (12 + pl (g 0) c) ≠ 0 ∧ g (12 + pl (g 0) c) ≠ col g f))) c))), some (.inl (nI c)), some (.inl (nI (g (12 + pl (g 0) c)))), some (.inl (nI 1))]) dX10_coveredBy_72 (Nat.le_of_ble_eq_true rfl) rfl ?_
            refine G_iload dX10_coveredBy_74 rfl ?_
            refine G_aload_n dX10_coveredBy_76 rfl rfl ?_
            refine G_getR (j := 70) dX10_coveredBy_77 fX10_69 rfl rfl ?_
            refine G_iload dX10_coveredBy_80 rfl ?_
            refine G_zald (k := c) (v := (bI (cvG g f (pl (g 0) c)))) dX10_coveredBy_82 rfl (vp_in_nI (by omega) (by omega)) (nI_clamp (by omega)) (hC c hcN) ?_
            refine Gb_if_eq (tgt := 95) dX10_coveredBy_83 (by decide) (fun h83 => ?_) (fun h83 => ?_)
            · refine G_iconst (v := (nI 0)) dX10_coveredBy_95 (by decide) ?_
              refine G_iadd (v := (nI (fb_ct (fun c => (cvG g f (pl (g 0) c) && decide (g (12 + pl (g 0) c) ≠ 0 ∧ g (12 + pl (g 0) c) ≠ col g f))) (c + 1)))) dX10_coveredBy_96 (by rw [ct_s0 (P := (fun c => (cvG g f (pl (g 0) c) && decide (g (12 + pl (g 0) c) ≠ 0 ∧ g (12 + pl (g 0) c) ≠ col g f)))) (by show (cvG g f (pl (g 0) c) && decide (g (12 + pl (g 0) c) ≠ 0 ∧ g (12 + pl (g 0) c) ≠ col g f)) = false; rw [h83]; rfl)]; exact nI_add _ _) ?_
              refine G_istore (L2 := [some (.inr 50), some (.inl (nI f)), some (.inl (nI 5)), some (.inl (nI (col g f))), some (.inl (nI (fb_ct (fun c => (cvG g f (pl (g 0) c) && decide (g (12 + pl (g 0) c) ≠ 0 ∧ g (12 + pl (g 0) c) ≠ col g f))) (c + 1)))), some (.inl (nI c)), some (.inl (nI (g (12 + pl (g 0) c)))), some (.inl (nI 1))]) dX10_coveredBy_97 (Nat.le_of_ble_eq_true rfl) rfl ?_
              refine G_iinc (v := (nI (c + 1))) (L2 := [some (.inr 50), some (.inl (nI f)), some (.inl (nI 5)), some (.inl (nI (col g f))), some (.inl (nI (fb_ct (fun c => (cvG g f (pl (g 0) c) && decide (g (12 + pl (g 0) c) ≠ 0 ∧ g (12 + pl (g 0) c) ≠ col g f))) (c + 1)))), some (.inl (nI (c + 1))), some (.inl (nI (g (12 + pl (g 0) c)))), some (.inl (nI 1))]) dX10_coveredBy_99 rfl (nI_1 _) rfl ?_
              refine G_goto (tgt := 17) dX10_coveredBy_102 (by decide) ?_
              exact ih (g 0 * g 1 - (c + 1)) (by omega) (c + 1) _ _ rfl (by omega)
            · refine G_iload dX10_coveredBy_86 rfl ?_
              refine Gn_if_eq (tgt := 95) dX10_coveredBy_88 (by decide) (by omega) (fun h88 => ?_) (fun h88 => ?_)
              · omega
              · refine G_iconst (v := (nI 1)) dX10_coveredBy_91 (by decide) ?_
                refine G_goto (tgt := 96) dX10_coveredBy_92 (by decide) ?_
                refine G_iadd (v := (nI (fb_ct (fun c => (cvG g f (pl (g 0) c) && decide (g (12 + pl (g 0) c) ≠ 0 ∧ g (12 + pl (g 0) c) ≠ col g f))) (c + 1)))) dX10_coveredBy_96 (by rw [ct_s1 (P := (fun c => (cvG g f (pl (g 0) c) && decide (g (12 + pl (g 0) c) ≠ 0 ∧ g (12 + pl (g 0) c) ≠ col g f)))) (by show (cvG g f (pl (g 0) c) && decide (g (12 + pl (g 0) c) ≠ 0 ∧ g (12 + pl (g 0) c) ≠ col g f)) = true; rw [h83]; exact decide_eq_true ⟨by omega, h56⟩)]; exact nI_add _ _) ?_
                refine G_istore (L2 := [some (.inr 50), some (.inl (nI f)), some (.inl (nI 5)), some (.inl (nI (col g f))), some (.inl (nI (fb_ct (fun c => (cvG g f (pl (g 0) c) && decide (g (12 + pl (g 0) c) ≠ 0 ∧ g (12 + pl (g 0) c) ≠ col g f))) (c + 1)))), some (.inl (nI c)), some (.inl (nI (g (12 + pl (g 0) c)))), some (.inl (nI 1))]) dX10_coveredBy_97 (Nat.le_of_ble_eq_true rfl) rfl ?_
                refine G_iinc (v := (nI (c + 1))) (L2 := [some (.inr 50), some (.inl (nI f)), some (.inl (nI 5)), some (.inl (nI (col g f))), some (.inl (nI (fb_ct (fun c => (cvG g f (pl (g 0) c) && decide (g (12 + pl (g 0) c) ≠ 0 ∧ g (12 + pl (g 0) c) ≠ col g f))) (c + 1)))), some (.inl (nI (c + 1))), some (.inl (nI (g (12 + pl (g 0) c)))), some (.inl (nI 1))]) dX10_coveredBy_99 rfl (nI_1 _) rfl ?_
                refine G_goto (tgt := 17) dX10_coveredBy_102 (by decide) ?_
                exact ih (g 0 * g 1 - (c + 1)) (by omega) (c + 1) _ _ rfl (by omega)
theorem y_cb5 {d f : Nat} {g : Nat → Nat} {M : Mem} (hs : hS g (M 51)) (hk : gok g) (hO : FOg g M) (hf : f < labN g) : Call l α D cA uX10_coveredBy (d + 4) [.inr 50, .inl (nI f), .inl (nI 5)] M (fun q M1 => q = .inl (fldA g f 5) ∧ FT M M1 ∧ FOg g M1) := by
  refine Call.of kX10_coveredBy.1 (Nat.le_of_ble_eq_true rfl) ?_
  have hc1 := col_in hk hf
  refine G_aload_n dX10_coveredBy_0 rfl rfl ?_
  refine G_iload_n dX10_coveredBy_1 rfl rfl ?_
  refine G_callVi (ν := uX10_colourOf) (As := [.inl (nI f)]) dX10_coveredBy_2 nX10_218 kX10_colourOf rfl rfl rfl rfl rfl (Nat.le_of_ble_eq_true rfl) (y_colourOf hs hk hO hf) ?_
  rintro _ M8 ⟨rfl, e9⟩
  subst M8
  refine G_istore_n (L2 := [some (.inr 50), some (.inl (nI f)), some (.inl (nI 5)), some (.inl (nI (col g f))), none, none, none, none]) dX10_coveredBy_5 rfl (Nat.le_of_ble_eq_true rfl) rfl ?_
  refine G_aload_n dX10_coveredBy_6 rfl rfl ?_
  refine G_iload_n dX10_coveredBy_7 rfl rfl ?_
  refine G_callVv (ν := uX10_covers) (As := [.inl (nI f)]) dX10_coveredBy_8 nX10_221 kX10_covers rfl rfl rfl rfl rfl (Nat.le_of_ble_eq_true rfl) (y_covers hs hk hO hf) ?_
  rintro _ M2 ⟨hF2, hO2, hC2⟩
  refine G_iconst (v := (nI 0)) dX10_coveredBy_11 (by decide) ?_
  refine G_istore (L2 := [some (.inr 50), some (.inl (nI f)), some (.inl (nI 5)), some (.inl (nI (col g f))), some (.inl (nI 0)), none, none, none]) dX10_coveredBy_12 (Nat.le_of_ble_eq_true rfl) rfl ?_
  refine G_iconst (v := (nI 0)) dX10_coveredBy_14 (by decide) ?_
  refine G_istore (L2 := [some (.inr 50), some (.inl (nI f)), some (.inl (nI 5)), some (.inl (nI (col g f))), some (.inl (nI 0)), some (.inl (nI 0)), none, none]) dX10_coveredBy_15 (Nat.le_of_ble_eq_true rfl) rfl ?_
  refine G_mono ?_ (ly_cb5 (FT_s hF2 hs) hk hf hC2 _ 0 _ _ rfl (Nat.zero_le _))
  rintro _ M3 ⟨rfl, rfl⟩
  exact ⟨by rw [cb_5 hk hf], hF2, hO2⟩
theorem ly_cb6 {d f : Nat} {g : Nat → Nat} {M : Mem} (hs : hS g (M 51)) (hk : gok g) (hf : f < labN g) (hC : ∀ c, c < g 0 * g 1 → M 70 c = bI (cvG g f (pl (g 0) c))) : ∀ (k c : Nat) (x6 x7 : Option AV), g 0 * g 1 - c = k → c ≤ g 0 * g 1 → G l α D cA uX10_coveredBy none (d + 4) (fun q M1 => q = .inl (nI (fb_ct (fun c => (cvG g f (pl (g 0) c) && decide (g (12 + pl (g 0) c) = 0))) (g 0 * g 1))) ∧ M1 = M) 17 [some (.inr 50), some (.inl (nI f)), some (.inl (nI 6)), some (.inl (nI (col g f))), some (.inl (nI (fb_ct (fun c => (cvG g f (pl (g 0) c) && decide (g (12 + pl (g 0) c) = 0))) c))), some (.inl (nI c)), x6, x7] [] M := by
  have hN := cel_48 hk
  have hc1 := col_in hk hf
  intro k
  induction k using Nat.strongRecOn with
  | _ k ih => ?_
  intro c x6 x7 hkk hc
  have hct := fb_ct_le (fun c => (cvG g f (pl (g 0) c) && decide (g (12 + pl (g 0) c) = 0))) c
  refine G_iload dX10_coveredBy_17 rfl ?_
  refine G_aload_n dX10_coveredBy_19 rfl rfl ?_
  refine G_callVi (ν := uX10_cells) (As := []) dX10_coveredBy_20 nX10_151 kX10_cells rfl rfl rfl rfl rfl (Nat.le_of_ble_eq_true rfl) (y_cells hs hk) ?_
  rintro _ M8 ⟨rfl, e9⟩
  subst M8
  refine Gn_icmp_ge (tgt := 105) dX10_coveredBy_23 (by decide) (by omega) (by omega) (fun h23 => ?_) (fun h23 => ?_)
  · refine G_iload dX10_coveredBy_105 rfl ?_
    refine G_iret dX10_coveredBy_107 rfl rfl ?_
    have e : c = g 0 * g 1 := by omega
    subst e
    exact ⟨rfl, rfl⟩
  · have hcN : c < g 0 * g 1 := by omega
    have hb9 := (hk.2.2.2.2.2 _ (pl_g hk hcN)).1
    refine G_aload_n dX10_coveredBy_26 rfl rfl ?_
    refine G_getR (j := 51) dX10_coveredBy_27 fX10_7 rfl rfl ?_
    refine G_bipush (v := (nI 12)) dX10_coveredBy_30 (by decide) ?_
    refine G_iload dX10_coveredBy_32 rfl ?_
    refine G_iadd (v := (nI (12 + c))) dX10_coveredBy_34 (nI_add _ _) ?_
    refine G_iald (k := 12 + c) (v := (nI (g (12 + pl (g 0) c)))) dX10_coveredBy_35 rfl (vp_in_nI (by omega) (by omega)) (nI_clamp (by omega)) (hs.2 c hcN) ?_
    refine G_istore (L2 := [some (.inr 50), some (.inl (nI f)), some (.inl (nI 6)), some (.inl (nI (col g f))), some (.inl (nI (fb_ct (fun c => (cvG g f (pl (g 0) c) && decide (g (12 + pl (g 0) c) = 0))) c))), some (.inl (nI c)), some (.inl (nI (g (12 + pl (g 0) c)))), x7]) dX10_coveredBy_36 (Nat.le_of_ble_eq_true rfl) rfl ?_
    refine G_iload_n dX10_coveredBy_38 rfl rfl ?_
    refine G_iconst (v := (nI 4)) dX10_coveredBy_39 (by decide) ?_
    refine Gn_icmp_eq (tgt := 67) dX10_coveredBy_40 (by decide) (by omega) (by omega) (fun h40 => ?_) (fun h40 => ?_)
    · omega
    · refine G_iload_n dX10_coveredBy_43 rfl rfl ?_
      refine G_iconst (v := (nI 5)) dX10_coveredBy_44 (by decide) ?_
      refine Gn_icmp_ne (tgt := 62) dX10_coveredBy_45 (by decide) (by omega) (by omega) (fun h45 => ?_) (fun h45 => ?_)
      · refine G_iload dX10_coveredBy_62 rfl ?_
        refine Gn_if_ne (tgt := 71) dX10_coveredBy_64 (by decide) (by omega) (fun h64 => ?_) (fun h64 => ?_)
        · refine G_iconst (v := (nI 0)) dX10_coveredBy_71 (by decide) ?_
          refine G_istore (L2 := [some (.inr 50), some (.inl (nI f)), some (.inl (nI 6)), some (.inl (nI (col g f))), some (.inl (nI (fb_ct (fun c => (cvG g f (pl (g 0) c) && decide (g (12 + pl (g 0) c) = 0))) c))), some (.inl (nI c)), some (.inl (nI (g (12 + pl (g 0) c)))), some (.inl (nI 0))]) dX10_coveredBy_72 (Nat.le_of_ble_eq_true rfl) rfl ?_
          refine G_iload dX10_coveredBy_74 rfl ?_
          refine G_aload_n dX10_coveredBy_76 rfl rfl ?_
          refine G_getR (j := 70) dX10_coveredBy_77 fX10_69 rfl rfl ?_
          refine G_iload dX10_coveredBy_80 rfl ?_
          refine G_zald (k := c) (v := (bI (cvG g f (pl (g 0) c)))) dX10_coveredBy_82 rfl (vp_in_nI (by omega) (by omega)) (nI_clamp (by omega)) (hC c hcN) ?_
          refine Gb_if_eq (tgt := 95) dX10_coveredBy_83 (by decide) (fun h83 => ?_) (fun h83 => ?_)
          · refine G_iconst (v := (nI 0)) dX10_coveredBy_95 (by decide) ?_
            refine G_iadd (v := (nI (fb_ct (fun c => (cvG g f (pl (g 0) c) && decide (g (12 + pl (g 0) c) = 0))) (c + 1)))) dX10_coveredBy_96 (by rw [ct_s0 (P := (fun c => (cvG g f (pl (g 0) c) && decide (g (12 + pl (g 0) c) = 0)))) (by show (cvG g f (pl (g 0) c) && decide (g (12 + pl (g 0) c) = 0)) = false; rw [h83]; rfl)]; exact nI_add _ _) ?_
            refine G_istore (L2 := [some (.inr 50), some (.inl (nI f)), some (.inl (nI 6)), some (.inl (nI (col g f))), some (.inl (nI (fb_ct (fun c => (cvG g f (pl (g 0) c) && decide (g (12 + pl (g 0) c) = 0))) (c + 1)))), some (.inl (nI c)), some (.inl (nI (g (12 + pl (g 0) c)))), some (.inl (nI 0))]) dX10_coveredBy_97 (Nat.le_of_ble_eq_true rfl) rfl ?_
            refine G_iinc (v := (nI (c + 1))) (L2 := [some (.inr 50), some (.inl (nI f)), some (.inl (nI 6)), some (.inl (nI (col g f))), some (.inl (nI (fb_ct (fun c => (cvG g f (pl (g 0) c) && decide (g (12 + pl (g 0) c) = 0))) (c + 1)))), some (.inl (nI (c + 1))), some (.inl (nI (g (12 + pl (g 0) c)))), some (.inl (nI 0))]) dX10_coveredBy_99 rfl (nI_1 _) rfl ?_
            refine G_goto (tgt := 17) dX10_coveredBy_102 (by decide) ?_
            exact ih (g 0 * g 1 - (c + 1)) (by omega) (c + 1) _ _ rfl (by omega)
          · refine G_iload dX10_coveredBy_86 rfl ?_
            refine Gn_if_eq (tgt := 95) dX10_coveredBy_88 (by decide) (by omega) (fun h88 => ?_) (fun h88 => ?_)
            · refine G_iconst (v := (nI 0)) dX10_coveredBy_95 (by decide) ?_
              refine G_iadd (v := (nI (fb_ct (fun c => (cvG g f (pl (g 0) c) && decide (g (12 + pl (g 0) c) = 0))) (c + 1)))) dX10_coveredBy_96 (by rw [ct_s0 (P := (fun c => (cvG g f (pl (g 0) c) && decide (g (12 + pl (g 0) c) = 0)))) (by show (cvG g f (pl (g 0) c) && decide (g (12 + pl (g 0) c) = 0)) = false; rw [decide_eq_false (by omega), Bool.and_false])]; exact nI_add _ _) ?_
              refine G_istore (L2 := [some (.inr 50), some (.inl (nI f)), some (.inl (nI 6)), some (.inl (nI (col g f))), some (.inl (nI (fb_ct (fun c => (cvG g f (pl (g 0) c) && decide (g (12 + pl (g 0) c) = 0))) (c + 1)))), some (.inl (nI c)), some (.inl (nI (g (12 + pl (g 0) c)))), some (.inl (nI 0))]) dX10_coveredBy_97 (Nat.le_of_ble_eq_true rfl) rfl ?_
              refine G_iinc (v := (nI (c + 1))) (L2 := [some (.inr 50), some (.inl (nI f)), some (.inl (nI 6)), some (.inl (nI (col g f))), some (.inl (nI (fb_ct (fun c => (cvG g f (pl (g 0) c) && decide (g (12 + pl (g 0) c) = 0))) (c + 1)))), some (.inl (nI (c + 1))), some (.inl (nI (g (12 + pl (g 0) c)))), some (.inl (nI 0))]) dX10_coveredBy_99 rfl (nI_1 _) rfl ?_
              refine G_goto (tgt := 17) dX10_coveredBy_102 (by decide) ?_
              exact ih (g 0 * g 1 - (c + 1)) (by omega) (c + 1) _ _ rfl (by omega)
            · omega
        · refine G_iconst (v := (nI 1)) dX10_coveredBy_67 (by decide) ?_
          refine G_goto (tgt := 72) dX10_coveredBy_68 (by decide) ?_
          refine G_istore (L2 := [some (.inr 50), some (.inl (nI f)), some (.inl (nI 6)), some (.inl (nI (col g f))), some (.inl (nI (fb_ct (fun c => (cvG g f (pl (g 0) c) && decide (g (12 + pl (g 0) c) = 0))) c))), some (.inl (nI c)), some (.inl (nI (g (12 + pl (g 0) c)))), some (.inl (nI 1))]) dX10_coveredBy_72 (Nat.le_of_ble_eq_true rfl) rfl ?_
          refine G_iload dX10_coveredBy_74 rfl ?_
          refine G_aload_n dX10_coveredBy_76 rfl rfl ?_
          refine G_getR (j := 70) dX10_coveredBy_77 fX10_69 rfl rfl ?_
          refine G_iload dX10_coveredBy_80 rfl ?_
          refine G_zald (k := c) (v := (bI (cvG g f (pl (g 0) c)))) dX10_coveredBy_82 rfl (vp_in_nI (by omega) (by omega)) (nI_clamp (by omega)) (hC c hcN) ?_
          refine Gb_if_eq (tgt := 95) dX10_coveredBy_83 (by decide) (fun h83 => ?_) (fun h83 => ?_)
          · refine G_iconst (v := (nI 0)) dX10_coveredBy_95 (by decide) ?_
            refine G_iadd (v := (nI (fb_ct (fun c => (cvG g f (pl (g 0) c) && decide (g (12 + pl (g 0) c) = 0))) (c + 1)))) dX10_coveredBy_96 (by rw [ct_s0 (P := (fun c => (cvG g f (pl (g 0) c) && decide (g (12 + pl (g 0) c) = 0)))) (by show (cvG g f (pl (g 0) c) && decide (g (12 + pl (g 0) c) = 0)) = false; rw [h83]; rfl)]; exact nI_add _ _) ?_
            refine G_istore (L2 := [some (.inr 50), some (.inl (nI f)), some (.inl (nI 6)), some (.inl (nI (col g f))), some (.inl (nI (fb_ct (fun c => (cvG g f (pl (g 0) c) && decide (g (12 + pl (g 0) c) = 0))) (c + 1)))), some (.inl (nI c)), some (.inl (nI (g (12 + pl (g 0) c)))), some (.inl (nI 1))]) dX10_coveredBy_97 (Nat.le_of_ble_eq_true rfl) rfl ?_
            refine G_iinc (v := (nI (c + 1))) (L2 := [some (.inr 50), some (.inl (nI f)), some (.inl (nI 6)), some (.inl (nI (col g f))), some (.inl (nI (fb_ct (fun c => (cvG g f (pl (g 0) c) && decide (g (12 + pl (g 0) c) = 0))) (c + 1)))), some (.inl (nI (c + 1))), some (.inl (nI (g (12 + pl (g 0) c)))), some (.inl (nI 1))]) dX10_coveredBy_99 rfl (nI_1 _) rfl ?_
            refine G_goto (tgt := 17) dX10_coveredBy_102 (by decide) ?_
            exact ih (g 0 * g 1 - (c + 1)) (by omega) (c + 1) _ _ rfl (by omega)
          · refine G_iload dX10_coveredBy_86 rfl ?_
            refine Gn_if_eq (tgt := 95) dX10_coveredBy_88 (by decide) (by omega) (fun h88 => ?_) (fun h88 => ?_)
            · omega
            · refine G_iconst (v := (nI 1)) dX10_coveredBy_91 (by decide) ?_
              refine G_goto (tgt := 96) dX10_coveredBy_92 (by decide) ?_
              refine G_iadd (v := (nI (fb_ct (fun c => (cvG g f (pl (g 0) c) && decide (g (12 + pl (g 0) c) = 0))) (c + 1)))) dX10_coveredBy_96 (by rw [ct_s1 (P := (fun c => (cvG g f (pl (g 0) c) && decide (g (12 + pl (g 0) c) = 0)))) (by show (cvG g f (pl (g 0) c) && decide (g (12 + pl (g 0) c) = 0)) = true; rw [h83]; exact decide_eq_true (by omega))]; exact nI_add _ _) ?_
              refine G_istore (L2 := [some (.inr 50), some (.inl (nI f)), some (.inl (nI 6)), some (.inl (nI (col g f))), some (.inl (nI (fb_ct (fun c => (cvG g f (pl (g 0) c) && decide (g (12 + pl (g 0) c) = 0))) (c + 1)))), some (.inl (nI c)), some (.inl (nI (g (12 + pl (g 0) c)))), some (.inl (nI 1))]) dX10_coveredBy_97 (Nat.le_of_ble_eq_true rfl) rfl ?_
              refine G_iinc (v := (nI (c + 1))) (L2 := [some (.inr 50), some (.inl (nI f)), some (.inl (nI 6)), some (.inl (nI (col g f))), some (.inl (nI (fb_ct (fun c => (cvG g f (pl (g 0) c) && decide (g (12 + pl (g 0) c) = 0))) (c + 1)))), some (.inl (nI (c + 1))), some (.inl (nI (g (12 + pl (g 0) c)))), some (.inl (nI 1))]) dX10_coveredBy_99 rfl (nI_1 _) rfl ?_
              refine G_goto (tgt := 17) dX10_coveredBy_102 (by decide) ?_
              exact ih (g 0 * g 1 - (c + 1)) (by omega) (c + 1) _ _ rfl (by omega)
      · omega
theorem y_cb6 {d f : Nat} {g : Nat → Nat} {M : Mem} (hs : hS g (M 51)) (hk : gok g) (hO : FOg g M) (hf : f < labN g) : Call l α D cA uX10_coveredBy (d + 4) [.inr 50, .inl (nI f), .inl (nI 6)] M (fun q M1 => q = .inl (fldA g f 6) ∧ FT M M1 ∧ FOg g M1) := by
  refine Call.of kX10_coveredBy.1 (Nat.le_of_ble_eq_true rfl) ?_
  have hc1 := col_in hk hf
  refine G_aload_n dX10_coveredBy_0 rfl rfl ?_
  refine G_iload_n dX10_coveredBy_1 rfl rfl ?_
  refine G_callVi (ν := uX10_colourOf) (As := [.inl (nI f)]) dX10_coveredBy_2 nX10_218 kX10_colourOf rfl rfl rfl rfl rfl (Nat.le_of_ble_eq_true rfl) (y_colourOf hs hk hO hf) ?_
  rintro _ M8 ⟨rfl, e9⟩
  subst M8
  refine G_istore_n (L2 := [some (.inr 50), some (.inl (nI f)), some (.inl (nI 6)), some (.inl (nI (col g f))), none, none, none, none]) dX10_coveredBy_5 rfl (Nat.le_of_ble_eq_true rfl) rfl ?_
  refine G_aload_n dX10_coveredBy_6 rfl rfl ?_
  refine G_iload_n dX10_coveredBy_7 rfl rfl ?_
  refine G_callVv (ν := uX10_covers) (As := [.inl (nI f)]) dX10_coveredBy_8 nX10_221 kX10_covers rfl rfl rfl rfl rfl (Nat.le_of_ble_eq_true rfl) (y_covers hs hk hO hf) ?_
  rintro _ M2 ⟨hF2, hO2, hC2⟩
  refine G_iconst (v := (nI 0)) dX10_coveredBy_11 (by decide) ?_
  refine G_istore (L2 := [some (.inr 50), some (.inl (nI f)), some (.inl (nI 6)), some (.inl (nI (col g f))), some (.inl (nI 0)), none, none, none]) dX10_coveredBy_12 (Nat.le_of_ble_eq_true rfl) rfl ?_
  refine G_iconst (v := (nI 0)) dX10_coveredBy_14 (by decide) ?_
  refine G_istore (L2 := [some (.inr 50), some (.inl (nI f)), some (.inl (nI 6)), some (.inl (nI (col g f))), some (.inl (nI 0)), some (.inl (nI 0)), none, none]) dX10_coveredBy_15 (Nat.le_of_ble_eq_true rfl) rfl ?_
  refine G_mono ?_ (ly_cb6 (FT_s hF2 hs) hk hf hC2 _ 0 _ _ rfl (Nat.zero_le _))
  rintro _ M3 ⟨rfl, rfl⟩
  exact ⟨by rw [cb_6 hk hf], hF2, hO2⟩
end P33
