/-! The reference: steps between cells, figures -/
section P32
variable {l : Launch} {α : Nat → Nat} {D : va_G} {cA : Nat → ClassId}
def R69 (M M1 : Mem) : Prop := ∀ q, q ≠ 69 → M1 q = M q
theorem R69_T {M M1 : Mem} (h : R69 M M1) : FT M M1 := ⟨fun q a b => h q (by omega), fun j _ _ _ => by rw [h 50 (by decide)]⟩
def ST2 (g : Nat → Nat) (A : Nat) (K : Nat → Bool) (M : Mem) : Prop := ∀ c, c < g 0 * g 1 → M 69 c = nI (if K c = true then dst g A (pl (g 0) c) else 1000)
def PK (g : Nat → Nat) (A n : Nat) (K : Nat → Bool) (c0 d0 : Nat) : Prop := (∀ c, c < g 0 * g 1 → rch g n A (pl (g 0) c) → K c = true) ∧ (∀ c, c < g 0 * g 1 → K c = true → rch g (n + 1) A (pl (g 0) c)) ∧ ∀ c d, c < g 0 * g 1 → d < g 0 * g 1 → (c < c0 ∨ (c = c0 ∧ d < d0)) → rch g n A (pl (g 0) c) → adjc g (pl (g 0) c) (pl (g 0) d) → K d = true
theorem dst_rch {g : Nat → Nat} {n A q : Nat} (h : rch g n A q) : dst g A q ≤ n ∧ rch g (dst g A q) A q ∧ ∀ m, m < dst g A q → ¬ rch g m A q := by
  have hi := dst_isd (g := g) (a := A) (b := q) ⟨n, h⟩
  refine ⟨?_, hi.1, hi.2⟩
  rcases Nat.lt_or_ge n (dst g A q) with z | z
  · exact absurd h (hi.2 n z)
  · exact z
theorem dst_new {g : Nat → Nat} {n A q : Nat} (h : rch g (n + 1) A q) (h2 : ¬ rch g n A q) : dst g A q = n + 1 := dst_is ⟨h, fun m hm z => h2 (rch_mono (by omega) z)⟩
theorem PK_near {g : Nat → Nat} {A n c d : Nat} {K : Nat → Bool} {c0 d0 : Nat} (h : PK g A n K c0 d0) (hd : d < g 0 * g 1) (hr : rch g n A (pl (g 0) c)) (hne : dst g A (pl (g 0) c) ≠ n) (ha : adjc g (pl (g 0) c) (pl (g 0) d)) : K d = true := by
  obtain ⟨a, b, -⟩ := dst_rch hr
  refine h.1 d hd ?_
  have : rch g (dst g A (pl (g 0) c) + 1) A (pl (g 0) d) := Or.inr ⟨_, b, ha⟩
  exact rch_mono (by omega) this
theorem PK_out {g : Nat → Nat} {A n c d : Nat} {K : Nat → Bool} (h : PK g A n K c d) (hne : ¬ (rch g n A (pl (g 0) c) ∧ dst g A (pl (g 0) c) = n)) : PK g A n K c (g 0 * g 1) := by
  refine ⟨h.1, h.2.1, fun x y hx hy hh hr ha => ?_⟩
  by_cases e : x = c
  · subst e
    exact PK_near h hy hr (fun z => hne ⟨hr, z⟩) ha
  · exact h.2.2 x y hx hy (by omega) hr ha
theorem PK_skip {g : Nat → Nat} {A n c d : Nat} {K : Nat → Bool} (h : PK g A n K c d) (hn : K d = true ∨ ¬ adjc g (pl (g 0) c) (pl (g 0) d)) : PK g A n K c (d + 1) := by
  refine ⟨h.1, h.2.1, fun x y hx hy hh hr ha => ?_⟩
  by_cases e : x = c ∧ y = d
  · obtain ⟨rfl, rfl⟩ := e
    exact hn.elim id (fun z => absurd ha z)
  · exact h.2.2 x y hx hy (by omega) hr ha
theorem PK_next {g : Nat → Nat} {A n c : Nat} {K : Nat → Bool} (h : PK g A n K c (g 0 * g 1)) : PK g A n K (c + 1) 0 := ⟨h.1, h.2.1, fun x y hx hy hh hr ha => h.2.2 x y hx hy (by omega) hr ha⟩
theorem PK_set {g : Nat → Nat} {A n c d : Nat} {K : Nat → Bool} (h : PK g A n K c d) (hr : rch g n A (pl (g 0) c)) (ha : adjc g (pl (g 0) c) (pl (g 0) d)) : PK g A n (setB K d) c (d + 1) := by
  have e : ∀ x, K x = true → setB K d x = true := fun x hx => by unfold setB; split; rfl; exact hx
  refine ⟨fun x hx z => e x (h.1 x hx z), fun x hx z => ?_, fun x y hx hy hh z1 z2 => ?_⟩
  · unfold setB at z
    by_cases q : x = d
    · subst q
      exact Or.inr ⟨_, hr, ha⟩
    · rw [if_neg q] at z
      exact h.2.1 x hx z
  · by_cases q : y = d
    · unfold setB; rw [if_pos q]
    · exact e y (h.2.2 x y hx hy (by omega) z1 z2)
theorem PK_end {g : Nat → Nat} (hk : gok g) {A n : Nat} {K : Nat → Bool} (hA : A < 48) (h : PK g A n K (g 0 * g 1) 0) (hz : g (12 + A) ≠ 0) : PK g A (n + 1) K 0 0 := by
  refine ⟨fun c hc hr => ?_, fun c hc hK => rch_succ (h.2.1 c hc hK), fun x y hx hy hh => by omega⟩
  rcases hr with hr | ⟨r, hr, ha⟩
  · exact h.1 c hc hr
  · obtain ⟨x, hx, rfl⟩ := cel_of hk (rch_lt hA hr) ha.1
    exact h.2.2 x c hx hc (Or.inl hx) hr ha
/-- what holds of K where a level begins -/
def KL (g : Nat → Nat) (A n : Nat) (K : Nat → Bool) : Prop := ∀ c, c < g 0 * g 1 → (K c = true ↔ rch g n A (pl (g 0) c))
theorem KL_PK {g : Nat → Nat} {A n : Nat} {K : Nat → Bool} (h : KL g A n K) : PK g A n K 0 0 := ⟨fun c hc z => (h c hc).mpr z, fun c hc z => rch_succ ((h c hc).mp z), fun x y hx hy hh => by omega⟩
theorem PK_KL {g : Nat → Nat} (hk : gok g) {A n : Nat} {K : Nat → Bool} (hA : A < 48) (h : PK g A n K (g 0 * g 1) 0) (hz : g (12 + A) ≠ 0) : KL g A (n + 1) K := fun c hc => ⟨h.2.1 c hc, (PK_end hk hA h hz).1 c hc⟩
theorem ST2_set {g : Nat → Nat} {A n d : Nat} {K : Nat → Bool} {M : Mem} (hk : gok g) (h : ST2 g A K M) (hd : dst g A (pl (g 0) d) = n + 1) : ST2 g A (setB K d) (ms M 69 d (nI (n + 1))) := fun c hc => by
  rw [ms_o]
  unfold upd setB
  by_cases e : c = d
  · rw [if_pos e, if_pos e, if_pos rfl, e, hd]
  · rw [if_neg e, if_neg e]
    exact h c hc
theorem ly_stD {d a b f : Nat} {g : Nat → Nat} {M : Mem} (hs : hS g (M 51)) (hk : gok g) (hO : FOg g M) (ha : a < g 0 * g 1) (hb : b < g 0 * g 1) (hla : labF g (pl (g 0) a) = some f) (hlb : labF g (pl (g 0) b) = some f) {n c : Nat} {Q : AV → Mem → Prop} (hn : n < 48) (hc : c < g 0 * g 1) (out : ∀ (K : Nat → Bool) (M1 : Mem) (x6 : Option AV), R69 M M1 → ST2 g (pl (g 0) a) K M1 → PK g (pl (g 0) a) n K c (g 0 * g 1) → G l α D cA uX10_stepsBetween none (d + 1) Q 146 [some (.inr 50), some (.inl (nI a)), some (.inl (nI b)), some (.inl (nI f)), some (.inl (nI n)), some (.inl (nI c)), x6] [] M1) : ∀ (k e : Nat) (K : Nat → Bool) (M1 : Mem), g 0 * g 1 - e = k → e ≤ g 0 * g 1 → R69 M M1 → ST2 g (pl (g 0) a) K M1 → PK g (pl (g 0) a) n K c e → K c = true → G l α D cA uX10_stepsBetween none (d + 1) Q 73 [some (.inr 50), some (.inl (nI a)), some (.inl (nI b)), some (.inl (nI f)), some (.inl (nI n)), some (.inl (nI c)), some (.inl (nI e))] [] M1 := by
  intro k
  induction k using Nat.strongRecOn with
  | _ k ih => ?_
  intro e K M1 hkk he hR hZ hP hKc
  have hN := cel_48 hk
  have hA48 := pl_g hk ha
  have hlg := labF_g hla
  have hL48 := labN_48 (g := g)
  have hs1 : hS g (M1 51) := FT_s (R69_T hR) hs
  have hO1 : FOg g M1 := FT_O (R69_T hR) hO
  have hrc1 := hP.2.1 c hc hKc
  have hdc := (dst_rch hrc1).1
  have hlc : labF g (pl (g 0) c) = some f := by
    have hI := ((labF_inv g).2.2.1 f hlg.2).2.2.1
    exact (hI _).mpr (conn_trans ((hI _).mp hla) ⟨_, hrc1⟩)
  refine G_iload dX10_stepsBetween_73 rfl ?_
  refine G_aload_n dX10_stepsBetween_75 rfl rfl ?_
  refine G_callVi (ν := uX10_cells) (As := []) dX10_stepsBetween_76 nX10_151 kX10_cells rfl rfl rfl rfl rfl (Nat.le_of_ble_eq_true rfl) (y_cells hs1 hk) ?_
  rintro _ M8 ⟨rfl, e9⟩
  subst M8
  refine Gn_icmp_ge (tgt := 146) dX10_stepsBetween_79 (by decide) (by omega) (by omega) (fun h79 => ?_) (fun h79 => ?_)
  · have ee : e = g 0 * g 1 := by omega
    subst ee
    exact out K M1 _ hR hZ hP
  · refine G_aload_n dX10_stepsBetween_82 rfl rfl ?_
    refine G_getR (j := 69) dX10_stepsBetween_83 fX10_66 rfl rfl ?_
    refine G_iload dX10_stepsBetween_86 rfl ?_
    refine G_iald (k := c) (v := (nI (dst g (pl (g 0) a) (pl (g 0) c)))) dX10_stepsBetween_88 rfl (vp_in_nI (by omega) (by omega)) (nI_clamp (by omega)) (by rw [hZ c hc, if_pos hKc]) ?_
    refine G_iload dX10_stepsBetween_89 rfl ?_
    refine Gn_icmp_ne (tgt := 146) dX10_stepsBetween_91 (by decide) (by omega) (by omega) (fun h91 => ?_) (fun h91 => ?_)
    · exact out K M1 _ hR hZ (PK_out hP (fun z => h91 z.2))
    · have hrc : rch g n (pl (g 0) a) (pl (g 0) c) := by
        have q := (dst_rch hrc1).2.1
        rw [h91] at q
        exact q
      have hve : (if K e = true then dst g (pl (g 0) a) (pl (g 0) e) else 1000) ≤ 1000 := by
        split
        · next z => have := (dst_rch (hP.2.1 e (by omega) z)).1; omega
        · exact Nat.le_refl _
      refine G_aload_n dX10_stepsBetween_94 rfl rfl ?_
      refine G_getR (j := 69) dX10_stepsBetween_95 fX10_66 rfl rfl ?_
      refine G_iload dX10_stepsBetween_98 rfl ?_
      refine G_iald (k := e) (v := (nI (if K e = true then dst g (pl (g 0) a) (pl (g 0) e) else 1000))) dX10_stepsBetween_100 rfl (vp_in_nI (by omega) (by omega)) (nI_clamp (by omega)) (hZ e (by omega)) ?_
      refine G_sipush (v := (nI 1000)) dX10_stepsBetween_101 (by decide) ?_
      refine Gn_icmp_ne (tgt := 140) dX10_stepsBetween_104 (by decide) (by omega) (by omega) (fun h104 => ?_) (fun h104 => ?_)
      · refine G_iinc (v := (nI (e + 1))) (L2 := [some (.inr 50), some (.inl (nI a)), some (.inl (nI b)), some (.inl (nI f)), some (.inl (nI n)), some (.inl (nI c)), some (.inl (nI (e + 1)))]) dX10_stepsBetween_140 rfl (nI_1 _) rfl ?_
        refine G_goto (tgt := 73) dX10_stepsBetween_143 (by decide) ?_
        exact ih (g 0 * g 1 - (e + 1)) (by omega) (e + 1) K M1 rfl (by omega) hR hZ (PK_skip hP (Or.inl (by
          cases hz : K e with
          | true => rfl
          | false => exact absurd (by rw [hz]; rfl) h104))) hKc
      · refine G_aload_n dX10_stepsBetween_107 rfl rfl ?_
        refine G_getR (j := 58) dX10_stepsBetween_108 fX10_33 rfl rfl ?_
        refine G_iload dX10_stepsBetween_111 rfl ?_
        refine G_iald (k := e) (v := (oI (labF g (pl (g 0) e)))) dX10_stepsBetween_113 rfl (vp_in_nI (by omega) (by omega)) (nI_clamp (by omega)) (hO1.1 e (by omega)) ?_
        refine G_iload_n dX10_stepsBetween_114 rfl rfl ?_
        refine G_icmp_ne (tgt := 140) dX10_stepsBetween_115 (by decide) (fun h115 => ?_) (fun h115 => ?_)
        · refine G_iinc (v := (nI (e + 1))) (L2 := [some (.inr 50), some (.inl (nI a)), some (.inl (nI b)), some (.inl (nI f)), some (.inl (nI n)), some (.inl (nI c)), some (.inl (nI (e + 1)))]) dX10_stepsBetween_140 rfl (nI_1 _) rfl ?_
          refine G_goto (tgt := 73) dX10_stepsBetween_143 (by decide) ?_
          exact ih (g 0 * g 1 - (e + 1)) (by omega) (e + 1) K M1 rfl (by omega) hR hZ (PK_skip hP (Or.inr (fun z => h115 ((FOg_lab hlg.2).mpr (by
            have q : conn g (pl (g 0) c) (pl (g 0) e) := ⟨1, rch_step z⟩
            have hI := ((labF_inv g).2.2.1 f hlg.2).2.2.1
            exact (hI _).mpr (conn_trans ((hI _).mp hlc) q)))))) hKc
        · refine G_aload_n dX10_stepsBetween_118 rfl rfl ?_
          refine G_iload dX10_stepsBetween_119 rfl ?_
          refine G_iload dX10_stepsBetween_121 rfl ?_
          refine G_callVi (ν := uX10_areBeside) (As := [.inl (nI c), .inl (nI e)]) dX10_stepsBetween_123 nX10_157 kX10_areBeside rfl rfl rfl rfl rfl (Nat.le_of_ble_eq_true rfl) (y_beside hs1 hk hc (by omega)) ?_
          rintro _ M8 ⟨rfl, e9⟩
          subst M8
          refine Gb_if_eq (tgt := 140) dX10_stepsBetween_126 (by decide) (fun h126 => ?_) (fun h126 => ?_)
          · refine G_iinc (v := (nI (e + 1))) (L2 := [some (.inr 50), some (.inl (nI a)), some (.inl (nI b)), some (.inl (nI f)), some (.inl (nI n)), some (.inl (nI c)), some (.inl (nI (e + 1)))]) dX10_stepsBetween_140 rfl (nI_1 _) rfl ?_
            refine G_goto (tgt := 73) dX10_stepsBetween_143 (by decide) ?_
            exact ih (g 0 * g 1 - (e + 1)) (by omega) (e + 1) K M1 rfl (by omega) hR hZ (PK_skip hP (Or.inr (fun z => dec_niff.mp h126 z.2.2))) hKc
          · refine G_aload_n dX10_stepsBetween_129 rfl rfl ?_
            refine G_getR (j := 69) dX10_stepsBetween_130 fX10_66 rfl rfl ?_
            refine G_iload dX10_stepsBetween_133 rfl ?_
            refine G_iload dX10_stepsBetween_135 rfl ?_
            refine G_iconst (v := (nI 1)) dX10_stepsBetween_137 (by decide) ?_
            refine G_iadd (v := (nI (n + 1))) dX10_stepsBetween_138 (nI_add _ _) ?_
            refine G_iast (k := e) (v := (nI (n + 1))) dX10_stepsBetween_139 rfl (vp_in_nI (by omega) (by omega)) (nI_clamp (by omega)) rfl ?_
            refine G_iinc (v := (nI (e + 1))) (L2 := [some (.inr 50), some (.inl (nI a)), some (.inl (nI b)), some (.inl (nI f)), some (.inl (nI n)), some (.inl (nI c)), some (.inl (nI (e + 1)))]) dX10_stepsBetween_140 rfl (nI_1 _) rfl ?_
            refine G_goto (tgt := 73) dX10_stepsBetween_143 (by decide) ?_
            have hKe : ¬ K e = true := fun z => by
              rw [if_pos z] at h104
              have := (dst_rch (hP.2.1 e (by omega) z)).1
              omega
            have had : adjc g (pl (g 0) c) (pl (g 0) e) := by
              have q := lab_conn hlc ((FOg_lab hlg.2).mp h115)
              exact ⟨q.2, conn_col q.1, dec_iff.mp h126⟩
            have hdd : dst g (pl (g 0) a) (pl (g 0) e) = n + 1 := dst_new (Or.inr ⟨_, hrc, had⟩) (fun z => hKe (hP.1 e (by omega) z))
            refine ih (g 0 * g 1 - (e + 1)) (by omega) (e + 1) (setB K e) _ rfl (by omega) (fun q z => (ms_q z).trans (hR q z)) (ST2_set hk hZ hdd) (PK_set hP hrc had) ?_
            unfold setB
            split
            · rfl
            · exact hKc
theorem ly_stN {d a b f : Nat} {g : Nat → Nat} {M : Mem} (hs : hS g (M 51)) (hk : gok g) (hO : FOg g M) (ha : a < g 0 * g 1) (hb : b < g 0 * g 1) (hla : labF g (pl (g 0) a) = some f) (hlb : labF g (pl (g 0) b) = some f) {n c : Nat} {K : Nat → Bool} {M1 : Mem} {Q : AV → Mem → Prop} (hn : n < 48) (hc : c < g 0 * g 1) (hR : R69 M M1) (hZ : ST2 g (pl (g 0) a) K M1) (hKc : ¬ K c = true) (hP : PK g (pl (g 0) a) n K c (g 0 * g 1)) (out : ∀ (K : Nat → Bool) (M1 : Mem) (x6 : Option AV), R69 M M1 → ST2 g (pl (g 0) a) K M1 → PK g (pl (g 0) a) n K c (g 0 * g 1) → G l α D cA uX10_stepsBetween none (d + 1) Q 146 [some (.inr 50), some (.inl (nI a)), some (.inl (nI b)), some (.inl (nI f)), some (.inl (nI n)), some (.inl (nI c)), x6] [] M1) : G l α D cA uX10_stepsBetween none (d + 1) Q 73 [some (.inr 50), some (.inl (nI a)), some (.inl (nI b)), some (.inl (nI f)), some (.inl (nI n)), some (.inl (nI c)), some (.inl (nI 0))] [] M1 := by
  have hN := cel_48 hk
  have hA48 := pl_g hk ha
  have hlg := labF_g hla
  have hL48 := labN_48 (g := g)
  have hs1 : hS g (M1 51) := FT_s (R69_T hR) hs
  have hO1 : FOg g M1 := FT_O (R69_T hR) hO
  refine G_iload dX10_stepsBetween_73 rfl ?_
  refine G_aload_n dX10_stepsBetween_75 rfl rfl ?_
  refine G_callVi (ν := uX10_cells) (As := []) dX10_stepsBetween_76 nX10_151 kX10_cells rfl rfl rfl rfl rfl (Nat.le_of_ble_eq_true rfl) (y_cells hs1 hk) ?_
  rintro _ M8 ⟨rfl, e9⟩
  subst M8
  refine Gn_icmp_ge (tgt := 146) dX10_stepsBetween_79 (by decide) (by omega) (by omega) (fun h79 => ?_) (fun h79 => ?_)
  · omega
  · refine G_aload_n dX10_stepsBetween_82 rfl rfl ?_
    refine G_getR (j := 69) dX10_stepsBetween_83 fX10_66 rfl rfl ?_
    refine G_iload dX10_stepsBetween_86 rfl ?_
    refine G_iald (k := c) (v := (nI 1000)) dX10_stepsBetween_88 rfl (vp_in_nI (by omega) (by omega)) (nI_clamp (by omega)) (by rw [hZ c hc, if_neg hKc]) ?_
    refine G_iload dX10_stepsBetween_89 rfl ?_
    refine Gn_icmp_ne (tgt := 146) dX10_stepsBetween_91 (by decide) (by omega) (by omega) (fun h91 => ?_) (fun h91 => ?_)
    · exact out K M1 _ hR hZ hP
    · omega
theorem ly_stC {d a b f : Nat} {g : Nat → Nat} {M : Mem} (hs : hS g (M 51)) (hk : gok g) (hO : FOg g M) (ha : a < g 0 * g 1) (hb : b < g 0 * g 1) (hla : labF g (pl (g 0) a) = some f) (hlb : labF g (pl (g 0) b) = some f) {n : Nat} {Q : AV → Mem → Prop} (hn : n < 48) (out : ∀ (K : Nat → Bool) (M1 : Mem) (x5 x6 : Option AV), R69 M M1 → ST2 g (pl (g 0) a) K M1 → PK g (pl (g 0) a) n K (g 0 * g 1) 0 → G l α D cA uX10_stepsBetween none (d + 1) Q 152 [some (.inr 50), some (.inl (nI a)), some (.inl (nI b)), some (.inl (nI f)), some (.inl (nI n)), x5, x6] [] M1) : ∀ (k c : Nat) (K : Nat → Bool) (M1 : Mem) (x6 : Option AV), g 0 * g 1 - c = k → c ≤ g 0 * g 1 → R69 M M1 → ST2 g (pl (g 0) a) K M1 → PK g (pl (g 0) a) n K c 0 → G l α D cA uX10_stepsBetween none (d + 1) Q 61 [some (.inr 50), some (.inl (nI a)), some (.inl (nI b)), some (.inl (nI f)), some (.inl (nI n)), some (.inl (nI c)), x6] [] M1 := by
  intro k
  induction k using Nat.strongRecOn with
  | _ k ih => ?_
  intro c K M1 x6 hkk hc hR hZ hP
  have hN := cel_48 hk
  have hA48 := pl_g hk ha
  have hlg := labF_g hla
  have hL48 := labN_48 (g := g)
  have hs1 : hS g (M1 51) := FT_s (R69_T hR) hs
  have hO1 : FOg g M1 := FT_O (R69_T hR) hO
  refine G_iload dX10_stepsBetween_61 rfl ?_
  refine G_aload_n dX10_stepsBetween_63 rfl rfl ?_
  refine G_callVi (ν := uX10_cells) (As := []) dX10_stepsBetween_64 nX10_151 kX10_cells rfl rfl rfl rfl rfl (Nat.le_of_ble_eq_true rfl) (y_cells hs1 hk) ?_
  rintro _ M8 ⟨rfl, e9⟩
  subst M8
  refine Gn_icmp_ge (tgt := 152) dX10_stepsBetween_67 (by decide) (by omega) (by omega) (fun h67 => ?_) (fun h67 => ?_)
  · have ee : c = g 0 * g 1 := by omega
    subst ee
    exact out K M1 _ _ hR hZ hP
  · refine G_iconst (v := (nI 0)) dX10_stepsBetween_70 (by decide) ?_
    refine G_istore (L2 := [some (.inr 50), some (.inl (nI a)), some (.inl (nI b)), some (.inl (nI f)), some (.inl (nI n)), some (.inl (nI c)), some (.inl (nI 0))]) dX10_stepsBetween_71 (Nat.le_of_ble_eq_true rfl) rfl ?_
    have back : ∀ (K2 : Nat → Bool) (M2 : Mem) (x6 : Option AV), R69 M M2 → ST2 g (pl (g 0) a) K2 M2 → PK g (pl (g 0) a) n K2 c (g 0 * g 1) → G l α D cA uX10_stepsBetween none (d + 1) Q 146 [some (.inr 50), some (.inl (nI a)), some (.inl (nI b)), some (.inl (nI f)), some (.inl (nI n)), some (.inl (nI c)), x6] [] M2 := by
      intro K2 M2 x6 hR2 hS2 hP2
      refine G_iinc (v := (nI (c + 1))) (L2 := [some (.inr 50), some (.inl (nI a)), some (.inl (nI b)), some (.inl (nI f)), some (.inl (nI n)), some (.inl (nI (c + 1))), x6]) dX10_stepsBetween_146 rfl (nI_1 _) rfl ?_
      refine G_goto (tgt := 61) dX10_stepsBetween_149 (by decide) ?_
      exact ih (g 0 * g 1 - (c + 1)) (by omega) (c + 1) K2 M2 _ rfl (by omega) hR2 hS2 (PK_next hP2)
    by_cases hKc : K c = true
    · exact ly_stD hs hk hO ha hb hla hlb hn (show c < g 0 * g 1 by omega) back _ 0 K M1 rfl (Nat.zero_le _) hR hZ hP hKc
    · refine ly_stN hs hk hO ha hb hla hlb hn (show c < g 0 * g 1 by omega) hR hZ hKc ?_ back
      exact PK_out hP (fun z => hKc (hP.1 c (by omega) z.1))
theorem ly_stW {d a b f : Nat} {g : Nat → Nat} {M : Mem} (hs : hS g (M 51)) (hk : gok g) (hO : FOg g M) (ha : a < g 0 * g 1) (hb : b < g 0 * g 1) (hla : labF g (pl (g 0) a) = some f) (hlb : labF g (pl (g 0) b) = some f) : ∀ (k n : Nat) (K : Nat → Bool) (M1 : Mem) (x5 x6 : Option AV), 48 - n = k → n ≤ dst g (pl (g 0) a) (pl (g 0) b) → R69 M M1 → ST2 g (pl (g 0) a) K M1 → KL g (pl (g 0) a) n K → G l α D cA uX10_stepsBetween none (d + 1) (fun r M1 => r = .inl (nI (dst g (pl (g 0) a) (pl (g 0) b))) ∧ R69 M M1) 46 [some (.inr 50), some (.inl (nI a)), some (.inl (nI b)), some (.inl (nI f)), some (.inl (nI n)), x5, x6] [] M1 := by
  intro k
  induction k using Nat.strongRecOn with
  | _ k ih => ?_
  intro n K M1 x5 x6 hkk hn hR hZ hL
  have hN := cel_48 hk
  have hA48 := pl_g hk ha
  have hlg := labF_g hla
  have hL48 := labN_48 (g := g)
  have hs1 : hS g (M1 51) := FT_s (R69_T hR) hs
  have hO1 : FOg g M1 := FT_O (R69_T hR) hO
  have hcn := (lab_conn hla hlb)
  have hd48 := isd_48 hA48 (dst_isd hcn.1)
  have hdb : (if K b = true then dst g (pl (g 0) a) (pl (g 0) b) else 1000) ≤ 1000 := by split <;> omega
  refine G_aload_n dX10_stepsBetween_46 rfl rfl ?_
  refine G_getR (j := 69) dX10_stepsBetween_47 fX10_66 rfl rfl ?_
  refine G_iload_n dX10_stepsBetween_50 rfl rfl ?_
  refine G_iald (k := b) (v := (nI (if K b = true then dst g (pl (g 0) a) (pl (g 0) b) else 1000))) dX10_stepsBetween_51 rfl (vp_in_nI (by omega) (by omega)) (nI_clamp (by omega)) (hZ b hb) ?_
  refine G_sipush (v := (nI 1000)) dX10_stepsBetween_52 (by decide) ?_
  refine Gn_icmp_ne (tgt := 158) dX10_stepsBetween_55 (by decide) (by omega) (by omega) (fun h55 => ?_) (fun h55 => ?_)
  · refine G_aload_n dX10_stepsBetween_158 rfl rfl ?_
    refine G_getR (j := 69) dX10_stepsBetween_159 fX10_66 rfl rfl ?_
    refine G_iload_n dX10_stepsBetween_162 rfl rfl ?_
    refine G_iald (k := b) (v := (nI (dst g (pl (g 0) a) (pl (g 0) b)))) dX10_stepsBetween_163 rfl (vp_in_nI (by omega) (by omega)) (nI_clamp (by omega)) (by rw [hZ b hb, if_pos (by
  cases hz : K b with
  | true => rfl
  | false => rw [hz] at h55; exact absurd rfl h55)]) ?_
    refine G_iret dX10_stepsBetween_164 rfl rfl ?_
    exact ⟨rfl, hR⟩
  · refine G_iconst (v := (nI 0)) dX10_stepsBetween_58 (by decide) ?_
    refine G_istore (L2 := [some (.inr 50), some (.inl (nI a)), some (.inl (nI b)), some (.inl (nI f)), some (.inl (nI n)), some (.inl (nI 0)), x6]) dX10_stepsBetween_59 (Nat.le_of_ble_eq_true rfl) rfl ?_
    have hKb : ¬ K b = true := fun z => by rw [if_pos z] at h55; omega
    have hnb : n < dst g (pl (g 0) a) (pl (g 0) b) := by
      rcases (show n < dst g (pl (g 0) a) (pl (g 0) b) ∨ n = dst g (pl (g 0) a) (pl (g 0) b) by omega) with z | z
      · exact z
      · exact absurd ((hL b hb).mpr (by rw [z]; exact (dst_isd hcn.1).1)) hKb
    refine ly_stC hs hk hO ha hb hla hlb (show n < 48 by omega) (fun K2 M2 x5 x6 hR2 hS2 hP2 => ?_) _ 0 K M1 _ rfl (Nat.zero_le _) hR hZ (KL_PK hL)
    refine G_iinc (v := (nI (n + 1))) (L2 := [some (.inr 50), some (.inl (nI a)), some (.inl (nI b)), some (.inl (nI f)), some (.inl (nI (n + 1))), x5, x6]) dX10_stepsBetween_152 rfl (nI_1 _) rfl ?_
    refine G_goto (tgt := 46) dX10_stepsBetween_155 (by decide) ?_
    exact ih (48 - (n + 1)) (by omega) (n + 1) K2 M2 _ _ rfl (by omega) hR2 hS2 (PK_KL hk hA48 hP2 hlg.1)
theorem ly_stZ {d a b f : Nat} {g : Nat → Nat} {M : Mem} (hs : hS g (M 51)) (hk : gok g) (hO : FOg g M) (ha : a < g 0 * g 1) (hb : b < g 0 * g 1) (hla : labF g (pl (g 0) a) = some f) (hlb : labF g (pl (g 0) b) = some f) : ∀ (k i : Nat) (M1 : Mem), 48 - i = k → i ≤ 48 → R69 M M1 → (∀ x, x < i → M1 69 x = nI (if x = a then 0 else 1000)) → G l α D cA uX10_stepsBetween none (d + 1) (fun r M1 => r = .inl (nI (dst g (pl (g 0) a) (pl (g 0) b))) ∧ R69 M M1) 10 [some (.inr 50), some (.inl (nI a)), some (.inl (nI b)), some (.inl (nI f)), some (.inl (nI i)), none, none] [] M1 := by
  intro k
  induction k using Nat.strongRecOn with
  | _ k ih => ?_
  intro i M1 hkk hi hR hZ
  have hN := cel_48 hk
  have hA48 := pl_g hk ha
  have hlg := labF_g hla
  have hL48 := labN_48 (g := g)
  have hs1 : hS g (M1 51) := FT_s (R69_T hR) hs
  have hO1 : FOg g M1 := FT_O (R69_T hR) hO
  refine G_iload dX10_stepsBetween_10 rfl ?_
  refine G_bipush (v := (nI 48)) dX10_stepsBetween_12 (by decide) ?_
  refine Gn_icmp_ge (tgt := 43) dX10_stepsBetween_14 (by decide) (by omega) (by omega) (fun h14 => ?_) (fun h14 => ?_)
  · refine G_iconst (v := (nI 0)) dX10_stepsBetween_43 (by decide) ?_
    refine G_istore (L2 := [some (.inr 50), some (.inl (nI a)), some (.inl (nI b)), some (.inl (nI f)), some (.inl (nI 0)), none, none]) dX10_stepsBetween_44 (Nat.le_of_ble_eq_true rfl) rfl ?_
    refine ly_stW hs hk hO ha hb hla hlb _ 0 (fun c => decide (c = a)) M1 _ _ rfl (Nat.zero_le _) hR (fun c hc => ?_) (fun c hc => ?_)
    · rw [hZ c (by omega)]
      by_cases z : c = a
      · subst z
        rw [if_pos rfl, if_pos (decide_eq_true rfl), dst_is (n := 0) ⟨rfl, fun m hm => absurd hm (Nat.not_lt_zero _)⟩]
      · rw [if_neg z, if_neg (fun q => z (of_decide_eq_true q))]
    · rw [decide_eq_true_eq]
      exact ⟨fun z => by rw [z]; rfl, fun z => (pl_inj hk.1.1 hk.1.2 z).symm⟩
  · refine G_aload_n dX10_stepsBetween_17 rfl rfl ?_
    refine G_getR (j := 69) dX10_stepsBetween_18 fX10_66 rfl rfl ?_
    refine G_iload dX10_stepsBetween_21 rfl ?_
    refine G_iload dX10_stepsBetween_23 rfl ?_
    refine G_iload_n dX10_stepsBetween_25 rfl rfl ?_
    refine Gn_icmp_ne (tgt := 33) dX10_stepsBetween_26 (by decide) (by omega) (by omega) (fun h26 => ?_) (fun h26 => ?_)
    · refine G_sipush (v := (nI 1000)) dX10_stepsBetween_33 (by decide) ?_
      refine G_iast (k := i) (v := (nI 1000)) dX10_stepsBetween_36 rfl (vp_in_nI (by omega) (by omega)) (nI_clamp (by omega)) rfl ?_
      refine G_iinc (v := (nI (i + 1))) (L2 := [some (.inr 50), some (.inl (nI a)), some (.inl (nI b)), some (.inl (nI f)), some (.inl (nI (i + 1))), none, none]) dX10_stepsBetween_37 rfl (nI_1 _) rfl ?_
      refine G_goto (tgt := 10) dX10_stepsBetween_40 (by decide) ?_
      refine ih (48 - (i + 1)) (by omega) (i + 1) _ rfl (by omega) (fun q z => (ms_q z).trans (hR q z)) (fun x hx => ?_)
      by_cases z : x = i
      · subst z; rw [ms_o, upd_k, if_neg h26]
      · rw [ms_o, upd_n z]; exact hZ x (by omega)
    · refine G_iconst (v := (nI 0)) dX10_stepsBetween_29 (by decide) ?_
      refine G_goto (tgt := 36) dX10_stepsBetween_30 (by decide) ?_
      refine G_iast (k := i) (v := (nI 0)) dX10_stepsBetween_36 rfl (vp_in_nI (by omega) (by omega)) (nI_clamp (by omega)) rfl ?_
      refine G_iinc (v := (nI (i + 1))) (L2 := [some (.inr 50), some (.inl (nI a)), some (.inl (nI b)), some (.inl (nI f)), some (.inl (nI (i + 1))), none, none]) dX10_stepsBetween_37 rfl (nI_1 _) rfl ?_
      refine G_goto (tgt := 10) dX10_stepsBetween_40 (by decide) ?_
      refine ih (48 - (i + 1)) (by omega) (i + 1) _ rfl (by omega) (fun q z => (ms_q z).trans (hR q z)) (fun x hx => ?_)
      by_cases z : x = i
      · subst z; rw [ms_o, upd_k, if_pos h26]
      · rw [ms_o, upd_n z]; exact hZ x (by omega)
theorem y_steps {d a b f : Nat} {g : Nat → Nat} {M : Mem} (hs : hS g (M 51)) (hk : gok g) (hO : FOg g M) (ha : a < g 0 * g 1) (hb : b < g 0 * g 1) (hla : labF g (pl (g 0) a) = some f) (hlb : labF g (pl (g 0) b) = some f) : Call l α D cA uX10_stepsBetween (d + 1) [.inr 50, .inl (nI a), .inl (nI b)] M (fun r M1 => r = .inl (nI (dst g (pl (g 0) a) (pl (g 0) b))) ∧ R69 M M1) := by
  refine Call.of kX10_stepsBetween.1 (Nat.le_of_ble_eq_true rfl) ?_
  have hN := cel_48 hk
  refine G_aload_n dX10_stepsBetween_0 rfl rfl ?_
  refine G_getR (j := 58) dX10_stepsBetween_1 fX10_33 rfl rfl ?_
  refine G_iload_n dX10_stepsBetween_4 rfl rfl ?_
  refine G_iald (k := a) (v := (nI f)) dX10_stepsBetween_5 rfl (vp_in_nI (by omega) (by omega)) (nI_clamp (by omega)) (by rw [hO.1 a ha, hla]; rfl) ?_
  refine G_istore_n (L2 := [some (.inr 50), some (.inl (nI a)), some (.inl (nI b)), some (.inl (nI f)), none, none, none]) dX10_stepsBetween_6 rfl (Nat.le_of_ble_eq_true rfl) rfl ?_
  refine G_iconst (v := (nI 0)) dX10_stepsBetween_7 (by decide) ?_
  refine G_istore (L2 := [some (.inr 50), some (.inl (nI a)), some (.inl (nI b)), some (.inl (nI f)), some (.inl (nI 0)), none, none]) dX10_stepsBetween_8 (Nat.le_of_ble_eq_true rfl) rfl ?_
  exact ly_stZ hs hk hO ha hb hla hlb _ 0 M rfl (by decide) (fun _ _ => rfl) (fun x hx => absurd hx (Nat.not_lt_zero _))
theorem row_in {g : Nat → Nat} {v f r : Nat} (hr : r < (rwS (labF g) v f (g 0) (g 1)).1) : (rwS (labF g) v f (g 0) (g 1)).2.1 r < lcO v (g 0) (g 1) ∧ (rwS (labF g) v f (g 0) (g 1)).2.2.1 r ≤ (rwS (labF g) v f (g 0) (g 1)).2.2.2 r ∧ (rwS (labF g) v f (g 0) (g 1)).2.2.2 r < llO v (g 0) (g 1) := by
  obtain ⟨y1, y2, y3, y4, y5, y6⟩ := (rwS_RI (F := labF g) (w := v) (f := f) (W := g 0) (H := g 1)).2.1 r hr
  refine ⟨?_, y2, y3⟩
  rcases (show (rwS (labF g) v f (g 0) (g 1)).2.1 r < lcO v (g 0) (g 1) ∨ (rwS (labF g) v f (g 0) (g 1)).2.1 r = lcO v (g 0) (g 1) by omega) with z | z
  · exact z
  · have := y4 z
    omega
theorem y_lengthOf {r : Nat} {d v f : Nat} {g : Nat → Nat} {M : Mem} (hs : hS g (M 51)) (hk : gok g) (hO : FOg g M) (v2 : v < 2) (hW : SWm g v f M) (hr : r < (rwS (labF g) v f (g 0) (g 1)).1) : Call l α D cA uX10_lengthOf d [.inr 50, .inl (nI r)] M (fun q M1 => q = .inl (nI (rLen (rwS (labF g) v f (g 0) (g 1)) r)) ∧ M1 = M) := by
  refine Call.of kX10_lengthOf.1 (Nat.le_of_ble_eq_true rfl) ?_
  have hB := rwS_RB (F := labF g) (w := v) (f := f) hk.1.2 hk.2.1.2
  have hPI := rwS_PI (F := labF g) (w := v) (f := f) (W := g 0) (H := g 1)
  have hb := hB.1
  have hb2 := hPI.1
  have hri := row_in hr
  have hbr := hB.2 r hr
  refine G_aload_n dX10_lengthOf_0 rfl rfl ?_
  refine G_getR (j := 61) dX10_lengthOf_1 fX10_42 rfl rfl ?_
  refine G_iload_n dX10_lengthOf_4 rfl rfl ?_
  refine G_iald (k := r) (v := (nI ((rwS (labF g) v f (g 0) (g 1)).2.2.2 r))) dX10_lengthOf_5 rfl (vp_in_nI (by omega) (by omega)) (nI_clamp (by omega)) (hW.2.1.2 r hr).2.2 ?_
  refine G_aload_n dX10_lengthOf_6 rfl rfl ?_
  refine G_getR (j := 60) dX10_lengthOf_7 fX10_39 rfl rfl ?_
  refine G_iload_n dX10_lengthOf_10 rfl rfl ?_
  refine G_iald (k := r) (v := (nI ((rwS (labF g) v f (g 0) (g 1)).2.2.1 r))) dX10_lengthOf_11 rfl (vp_in_nI (by omega) (by omega)) (nI_clamp (by omega)) (hW.2.1.2 r hr).2.1 ?_
  refine G_isub (v := (nI (((rwS (labF g) v f (g 0) (g 1)).2.2.2 r) - ((rwS (labF g) v f (g 0) (g 1)).2.2.1 r)))) dX10_lengthOf_12 (pk_sub (by omega)) ?_
  refine G_iconst (v := (nI 1)) dX10_lengthOf_13 (by decide) ?_
  refine G_iadd (v := (nI ((((rwS (labF g) v f (g 0) (g 1)).2.2.2 r) - ((rwS (labF g) v f (g 0) (g 1)).2.2.1 r)) + 1))) dX10_lengthOf_14 (nI_add _ _) ?_
  refine G_iret dX10_lengthOf_15 rfl rfl ?_
  exact ⟨rfl, rfl⟩
theorem y_stitchesOf {r : Nat} {d v f : Nat} {g : Nat → Nat} {M : Mem} (hs : hS g (M 51)) (hk : gok g) (hO : FOg g M) (v2 : v < 2) (hW : SWm g v f M) (hr : r < (rwS (labF g) v f (g 0) (g 1)).1) : Call l α D cA uX10_stitchesOf (d + 1) [.inr 50, .inl (nI r)] M (fun q M1 => q = .inl (nI (rSti (rwS (labF g) v f (g 0) (g 1)) (g 2) r)) ∧ M1 = M) := by
  refine Call.of kX10_stitchesOf.1 (Nat.le_of_ble_eq_true rfl) ?_
  have hB := rwS_RB (F := labF g) (w := v) (f := f) hk.1.2 hk.2.1.2
  have hPI := rwS_PI (F := labF g) (w := v) (f := f) (W := g 0) (H := g 1)
  have hb := hB.1
  have hb2 := hPI.1
  have hri := row_in hr
  have hbr := hB.2 r hr
  have hm := hk.2.2.1
  have hrl : rLen (rwS (labF g) v f (g 0) (g 1)) r ≤ 49 := by unfold rLen; omega
  refine G_aload_n dX10_stitchesOf_0 rfl rfl ?_
  refine G_iload_n dX10_stitchesOf_1 rfl rfl ?_
  refine G_callVi (ν := uX10_lengthOf) (As := [.inl (nI r)]) dX10_stitchesOf_2 nX10_187 kX10_lengthOf rfl rfl rfl rfl rfl (Nat.le_of_ble_eq_true rfl) (y_lengthOf hs hk hO v2 hW hr) ?_
  rintro _ M8 ⟨rfl, e9⟩
  subst M8
  refine G_aload_n dX10_stitchesOf_5 rfl rfl ?_
  refine G_getR (j := 51) dX10_stitchesOf_6 fX10_7 rfl rfl ?_
  refine G_iconst (v := (nI 2)) dX10_stitchesOf_9 (by decide) ?_
  refine G_iald (k := 2) (v := (nI (g 2))) dX10_stitchesOf_10 rfl (vp_in_nI (by decide) (by decide)) rfl (hs.1 2 (by decide)) ?_
  refine G_iadd (v := (nI ((rLen (rwS (labF g) v f (g 0) (g 1)) r) + (g 2)))) dX10_stitchesOf_11 (nI_add _ _) ?_
  refine G_iconst (v := (nI 1)) dX10_stitchesOf_12 (by decide) ?_
  refine G_isub (v := (nI (((rLen (rwS (labF g) v f (g 0) (g 1)) r) + (g 2)) - 1))) dX10_stitchesOf_13 (pk_sub (by omega)) ?_
  refine G_aload_n dX10_stitchesOf_14 rfl rfl ?_
  refine G_getR (j := 51) dX10_stitchesOf_15 fX10_7 rfl rfl ?_
  refine G_iconst (v := (nI 2)) dX10_stitchesOf_18 (by decide) ?_
  refine G_iald (k := 2) (v := (nI (g 2))) dX10_stitchesOf_19 rfl (vp_in_nI (by decide) (by decide)) rfl (hs.1 2 (by decide)) ?_
  refine G_idiv (v := (nI ((((rLen (rwS (labF g) v f (g 0) (g 1)) r) + (g 2)) - 1) / (g 2)))) dX10_stitchesOf_20 (nI_ne0 (by omega) (by omega)) (pk_div (by omega) (by omega) (by omega)) ?_
  refine G_iret dX10_stitchesOf_21 rfl rfl ?_
  exact ⟨rfl, rfl⟩
theorem y_startOf {p : Nat} {d v f : Nat} {g : Nat → Nat} {M : Mem} (hs : hS g (M 51)) (hk : gok g) (hO : FOg g M) (v2 : v < 2) (hW : SWm g v f M) (hp : p < (psS (rwS (labF g) v f (g 0) (g 1))).1) : Call l α D cA uX10_startOf (d + 1) [.inr 50, .inl (nI p)] M (fun q M1 => q = .inl (nI (numO g (pBeg v (rwS (labF g) v f (g 0) (g 1)) (psS (rwS (labF g) v f (g 0) (g 1))) p))) ∧ M1 = M) := by
  refine Call.of kX10_startOf.1 (Nat.le_of_ble_eq_true rfl) ?_
  have hB := rwS_RB (F := labF g) (w := v) (f := f) hk.1.2 hk.2.1.2
  have hPI := rwS_PI (F := labF g) (w := v) (f := f) (W := g 0) (H := g 1)
  have hb := hB.1
  have hb2 := hPI.1
  obtain ⟨z1, z2, z3, z4, z5⟩ := hPI.2.2 p hp
  have hri := row_in z1
  refine G_aload_n dX10_startOf_0 rfl rfl ?_
  refine G_aload_n dX10_startOf_1 rfl rfl ?_
  refine G_getR (j := 59) dX10_startOf_2 fX10_36 rfl rfl ?_
  refine G_aload_n dX10_startOf_5 rfl rfl ?_
  refine G_getR (j := 67) dX10_startOf_6 fX10_60 rfl rfl ?_
  refine G_iload_n dX10_startOf_9 rfl rfl ?_
  refine G_iald (k := p) (v := (nI ((psS (rwS (labF g) v f (g 0) (g 1))).2.2.1 p))) dX10_startOf_10 rfl (vp_in_nI (by omega) (by omega)) (nI_clamp (by omega)) (hW.2.2.2.2 p hp).1 ?_
  refine G_iald (k := (psS (rwS (labF g) v f (g 0) (g 1))).2.2.1 p) (v := (nI ((rwS (labF g) v f (g 0) (g 1)).2.1 ((psS (rwS (labF g) v f (g 0) (g 1))).2.2.1 p)))) dX10_startOf_11 rfl (vp_in_nI (by omega) (by omega)) (nI_clamp (by omega)) (hW.2.1.2 _ z1).1 ?_
  refine G_aload_n dX10_startOf_12 rfl rfl ?_
  refine G_getR (j := 60) dX10_startOf_13 fX10_39 rfl rfl ?_
  refine G_aload_n dX10_startOf_16 rfl rfl ?_
  refine G_getR (j := 67) dX10_startOf_17 fX10_60 rfl rfl ?_
  refine G_iload_n dX10_startOf_20 rfl rfl ?_
  refine G_iald (k := p) (v := (nI ((psS (rwS (labF g) v f (g 0) (g 1))).2.2.1 p))) dX10_startOf_21 rfl (vp_in_nI (by omega) (by omega)) (nI_clamp (by omega)) (hW.2.2.2.2 p hp).1 ?_
  refine G_iald (k := (psS (rwS (labF g) v f (g 0) (g 1))).2.2.1 p) (v := (nI ((rwS (labF g) v f (g 0) (g 1)).2.2.1 ((psS (rwS (labF g) v f (g 0) (g 1))).2.2.1 p)))) dX10_startOf_22 rfl (vp_in_nI (by omega) (by omega)) (nI_clamp (by omega)) (hW.2.1.2 _ z1).2.1 ?_
  refine G_callVi (ν := uX10_cellAt) (As := [.inl (nI ((rwS (labF g) v f (g 0) (g 1)).2.1 ((psS (rwS (labF g) v f (g 0) (g 1))).2.2.1 p))), .inl (nI ((rwS (labF g) v f (g 0) (g 1)).2.2.1 ((psS (rwS (labF g) v f (g 0) (g 1))).2.2.1 p)))]) dX10_startOf_23 nX10_175 kX10_cellAt rfl rfl rfl rfl rfl (Nat.le_of_ble_eq_true rfl) (y_cellAt hs hk hW.1 v2 hri.1 (by omega)) ?_
  rintro _ M8 ⟨rfl, e9⟩
  subst M8
  refine G_iret dX10_startOf_26 rfl rfl ?_
  exact ⟨rfl, rfl⟩
theorem y_endOf {p : Nat} {d v f : Nat} {g : Nat → Nat} {M : Mem} (hs : hS g (M 51)) (hk : gok g) (hO : FOg g M) (v2 : v < 2) (hW : SWm g v f M) (hp : p < (psS (rwS (labF g) v f (g 0) (g 1))).1) : Call l α D cA uX10_endOf (d + 1) [.inr 50, .inl (nI p)] M (fun q M1 => q = .inl (nI (numO g (pEnd v (rwS (labF g) v f (g 0) (g 1)) (psS (rwS (labF g) v f (g 0) (g 1))) p))) ∧ M1 = M) := by
  refine Call.of kX10_endOf.1 (Nat.le_of_ble_eq_true rfl) ?_
  have hB := rwS_RB (F := labF g) (w := v) (f := f) hk.1.2 hk.2.1.2
  have hPI := rwS_PI (F := labF g) (w := v) (f := f) (W := g 0) (H := g 1)
  have hb := hB.1
  have hb2 := hPI.1
  obtain ⟨z1, z2, z3, z4, z5⟩ := hPI.2.2 p hp
  have hri := row_in z2
  have hps : (psS (rwS (labF g) v f (g 0) (g 1))).2.2.2.2 p ≤ 48 := by omega
  refine G_aload_n dX10_endOf_0 rfl rfl ?_
  refine G_getR (j := 68) dX10_endOf_1 fX10_63 rfl rfl ?_
  refine G_iload_n dX10_endOf_4 rfl rfl ?_
  refine G_iald (k := p) (v := (nI ((psS (rwS (labF g) v f (g 0) (g 1))).2.2.2.1 p))) dX10_endOf_5 rfl (vp_in_nI (by omega) (by omega)) (nI_clamp (by omega)) (hW.2.2.2.2 p hp).2.1 ?_
  refine G_istore_n (L2 := [some (.inr 50), some (.inl (nI p)), some (.inl (nI ((psS (rwS (labF g) v f (g 0) (g 1))).2.2.2.1 p)))]) dX10_endOf_6 rfl (Nat.le_of_ble_eq_true rfl) rfl ?_
  refine G_aload_n dX10_endOf_7 rfl rfl ?_
  refine G_aload_n dX10_endOf_8 rfl rfl ?_
  refine G_getR (j := 59) dX10_endOf_9 fX10_36 rfl rfl ?_
  refine G_iload_n dX10_endOf_12 rfl rfl ?_
  refine G_iald (k := (psS (rwS (labF g) v f (g 0) (g 1))).2.2.2.1 p) (v := (nI ((rwS (labF g) v f (g 0) (g 1)).2.1 ((psS (rwS (labF g) v f (g 0) (g 1))).2.2.2.1 p)))) dX10_endOf_13 rfl (vp_in_nI (by omega) (by omega)) (nI_clamp (by omega)) (hW.2.1.2 _ z2).1 ?_
  refine G_aload_n dX10_endOf_14 rfl rfl ?_
  refine G_getR (j := 66) dX10_endOf_15 fX10_57 rfl rfl ?_
  refine G_iload_n dX10_endOf_18 rfl rfl ?_
  refine G_iald (k := p) (v := (nI ((psS (rwS (labF g) v f (g 0) (g 1))).2.2.2.2 p))) dX10_endOf_19 rfl (vp_in_nI (by omega) (by omega)) (nI_clamp (by omega)) (hW.2.2.2.2 p hp).2.2 ?_
  refine G_iconst (v := (nI 2)) dX10_endOf_20 (by decide) ?_
  refine G_irem (v := (nI (((psS (rwS (labF g) v f (g 0) (g 1))).2.2.2.2 p) % 2))) dX10_endOf_21 (nI_ne0 (by omega) (by omega)) (pk_rem (by omega) (by omega) (by omega)) ?_
  refine G_iconst (v := (nI 1)) dX10_endOf_22 (by decide) ?_
  refine Gn_icmp_ne (tgt := 35) dX10_endOf_23 (by decide) (by omega) (by omega) (fun h23 => ?_) (fun h23 => ?_)
  · refine G_aload_n dX10_endOf_35 rfl rfl ?_
    refine G_getR (j := 60) dX10_endOf_36 fX10_39 rfl rfl ?_
    refine G_iload_n dX10_endOf_39 rfl rfl ?_
    refine G_iald (k := (psS (rwS (labF g) v f (g 0) (g 1))).2.2.2.1 p) (v := (nI ((rwS (labF g) v f (g 0) (g 1)).2.2.1 ((psS (rwS (labF g) v f (g 0) (g 1))).2.2.2.1 p)))) dX10_endOf_40 rfl (vp_in_nI (by omega) (by omega)) (nI_clamp (by omega)) (hW.2.1.2 _ z2).2.1 ?_
    refine G_callVi (ν := uX10_cellAt) (As := [.inl (nI ((rwS (labF g) v f (g 0) (g 1)).2.1 ((psS (rwS (labF g) v f (g 0) (g 1))).2.2.2.1 p))), .inl (nI ((rwS (labF g) v f (g 0) (g 1)).2.2.1 ((psS (rwS (labF g) v f (g 0) (g 1))).2.2.2.1 p)))]) dX10_endOf_41 nX10_175 kX10_cellAt rfl rfl rfl rfl rfl (Nat.le_of_ble_eq_true rfl) (y_cellAt hs hk hW.1 v2 hri.1 (by omega)) ?_
    rintro _ M8 ⟨rfl, e9⟩
    subst M8
    refine G_iret dX10_endOf_44 rfl rfl ?_
    exact ⟨by rw [pEnd, if_neg h23], rfl⟩
  · refine G_aload_n dX10_endOf_26 rfl rfl ?_
    refine G_getR (j := 61) dX10_endOf_27 fX10_42 rfl rfl ?_
    refine G_iload_n dX10_endOf_30 rfl rfl ?_
    refine G_iald (k := (psS (rwS (labF g) v f (g 0) (g 1))).2.2.2.1 p) (v := (nI ((rwS (labF g) v f (g 0) (g 1)).2.2.2 ((psS (rwS (labF g) v f (g 0) (g 1))).2.2.2.1 p)))) dX10_endOf_31 rfl (vp_in_nI (by omega) (by omega)) (nI_clamp (by omega)) (hW.2.1.2 _ z2).2.2 ?_
    refine G_goto (tgt := 41) dX10_endOf_32 (by decide) ?_
    refine G_callVi (ν := uX10_cellAt) (As := [.inl (nI ((rwS (labF g) v f (g 0) (g 1)).2.1 ((psS (rwS (labF g) v f (g 0) (g 1))).2.2.2.1 p))), .inl (nI ((rwS (labF g) v f (g 0) (g 1)).2.2.2 ((psS (rwS (labF g) v f (g 0) (g 1))).2.2.2.1 p)))]) dX10_endOf_41 nX10_175 kX10_cellAt rfl rfl rfl rfl rfl (Nat.le_of_ble_eq_true rfl) (y_cellAt hs hk hW.1 v2 hri.1 (by omega)) ?_
    rintro _ M8 ⟨rfl, e9⟩
    subst M8
    refine G_iret dX10_endOf_44 rfl rfl ?_
    exact ⟨by rw [pEnd, if_pos h23], rfl⟩
theorem num_in {g : Nat → Nat} (hk : gok g) {q f : Nat} (hq : q < 48) (h : labF g q = some f) : numO g q < g 0 * g 1 ∧ pl (g 0) (numO g q) = q := by
  have := labF_in hk hq h
  exact ⟨nm_lt this.1 this.2, pl_nm this.1⟩
theorem SWm_T {g : Nat → Nat} {v f : Nat} {M M1 : Mem} (h : SWm g v f M) (hR : R69 M M1) : SWm g v f M1 := by
  unfold SWm RWm PRm
  rw [hR 50 (by decide), hR 59 (by decide), hR 60 (by decide), hR 61 (by decide), hR 65 (by decide), hR 66 (by decide), hR 67 (by decide), hR 68 (by decide)]
  exact h
theorem y_hiddenOf {p : Nat} {d v f : Nat} {g : Nat → Nat} {M : Mem} (hs : hS g (M 51)) (hk : gok g) (hO : FOg g M) (v2 : v < 2) (hW : SWm g v f M) (hp : p + 1 < (psS (rwS (labF g) v f (g 0) (g 1))).1) : Call l α D cA uX10_hiddenOf (d + 2) [.inr 50, .inl (nI p)] M (fun q M1 => q = .inl (nI (hid g v (rwS (labF g) v f (g 0) (g 1)) (psS (rwS (labF g) v f (g 0) (g 1))) p)) ∧ R69 M M1) := by
  refine Call.of kX10_hiddenOf.1 (Nat.le_of_ble_eq_true rfl) ?_
  have hB := rwS_RB (F := labF g) (w := v) (f := f) hk.1.2 hk.2.1.2
  have hPI := rwS_PI (F := labF g) (w := v) (f := f) (W := g 0) (H := g 1)
  have hb := hB.1
  have hb2 := hPI.1
  obtain ⟨a1, a2⟩ := pEnd_in (F := labF g) (w := v) (f := f) hk.1.2 hk.2.1.2 (p := p) (by omega)
  obtain ⟨b1, b2⟩ := pBeg_in (F := labF g) (w := v) (f := f) hk.1.2 hk.2.1.2 hp
  have na := num_in hk a2 a1
  have nb := num_in hk b2 b1
  refine G_aload_n dX10_hiddenOf_0 rfl rfl ?_
  refine G_aload_n dX10_hiddenOf_1 rfl rfl ?_
  refine G_iload_n dX10_hiddenOf_2 rfl rfl ?_
  refine G_callVi (ν := uX10_endOf) (As := [.inl (nI p)]) dX10_hiddenOf_3 nX10_190 kX10_endOf rfl rfl rfl rfl rfl (Nat.le_of_ble_eq_true rfl) (y_endOf hs hk hO v2 hW (by omega)) ?_
  rintro _ M8 ⟨rfl, e9⟩
  subst M8
  refine G_aload_n dX10_hiddenOf_6 rfl rfl ?_
  refine G_iload_n dX10_hiddenOf_7 rfl rfl ?_
  refine G_iconst (v := (nI 1)) dX10_hiddenOf_8 (by decide) ?_
  refine G_iadd (v := (nI (p + 1))) dX10_hiddenOf_9 (nI_add _ _) ?_
  refine G_callVi (ν := uX10_startOf) (As := [.inl (nI (p + 1))]) dX10_hiddenOf_10 nX10_193 kX10_startOf rfl rfl rfl rfl rfl (Nat.le_of_ble_eq_true rfl) (y_startOf hs hk hO v2 hW hp) ?_
  rintro _ M8 ⟨rfl, e9⟩
  subst M8
  refine G_callVi (ν := uX10_stepsBetween) (As := [.inl (nI (numO g (pEnd v (rwS (labF g) v f (g 0) (g 1)) (psS (rwS (labF g) v f (g 0) (g 1))) p))), .inl (nI (numO g (pBeg v (rwS (labF g) v f (g 0) (g 1)) (psS (rwS (labF g) v f (g 0) (g 1))) (p + 1))))]) dX10_hiddenOf_13 nX10_196 kX10_stepsBetween rfl rfl rfl rfl rfl (Nat.le_of_ble_eq_true rfl) (y_steps (f := f) hs hk hO na.1 nb.1 (by rw [na.2]; exact a1) (by rw [nb.2]; exact b1)) ?_
  rintro _ M2 ⟨rfl, hR2⟩
  rw [na.2, nb.2]
  refine G_iret dX10_hiddenOf_16 rfl rfl ?_
  exact ⟨rfl, hR2⟩
theorem ly_travel {d v f : Nat} {g : Nat → Nat} {M : Mem} (hs : hS g (M 51)) (hk : gok g) (hO : FOg g M) (v2 : v < 2) (hW : SWm g v f M) : ∀ (k p : Nat) (M1 : Mem), (psS (rwS (labF g) v f (g 0) (g 1))).1 - p = k → p ≤ (psS (rwS (labF g) v f (g 0) (g 1))).1 - 1 → R69 M M1 → G l α D cA uX10_travel none (d + 3) (fun q M1 => q = .inl (nI (fb_sm (hid g v (rwS (labF g) v f (g 0) (g 1)) (psS (rwS (labF g) v f (g 0) (g 1)))) ((psS (rwS (labF g) v f (g 0) (g 1))).1 - 1))) ∧ R69 M M1) 4 [some (.inr 50), some (.inl (nI (fb_sm (hid g v (rwS (labF g) v f (g 0) (g 1)) (psS (rwS (labF g) v f (g 0) (g 1)))) p))), some (.inl (nI p))] [] M1 := by
  have hB := rwS_RB (F := labF g) (w := v) (f := f) hk.1.2 hk.2.1.2
  have hPI := rwS_PI (F := labF g) (w := v) (f := f) (W := g 0) (H := g 1)
  have hb := hB.1
  have hb2 := hPI.1
  intro k
  induction k using Nat.strongRecOn with
  | _ k ih => ?_
  intro p M1 hkk hp hR
  have hsm : fb_sm (hid g v (rwS (labF g) v f (g 0) (g 1)) (psS (rwS (labF g) v f (g 0) (g 1)))) (p + 1) = fb_sm (hid g v (rwS (labF g) v f (g 0) (g 1)) (psS (rwS (labF g) v f (g 0) (g 1)))) p + hid g v (rwS (labF g) v f (g 0) (g 1)) (psS (rwS (labF g) v f (g 0) (g 1))) p := fb_sm_succ _ _
  refine G_iload_n dX10_travel_4 rfl rfl ?_
  refine G_iconst (v := (nI 1)) dX10_travel_5 (by decide) ?_
  refine G_iadd (v := (nI (p + 1))) dX10_travel_6 (nI_add _ _) ?_
  refine G_aload_n dX10_travel_7 rfl rfl ?_
  refine G_getI (v := (nI ((psS (rwS (labF g) v f (g 0) (g 1))).1))) dX10_travel_8 fX10_184 rfl rfl (SWm_T hW hR).2.2.1 ?_
  refine Gn_icmp_ge (tgt := 28) dX10_travel_11 (by decide) (by omega) (by omega) (fun h11 => ?_) (fun h11 => ?_)
  · refine G_iload_n dX10_travel_28 rfl rfl ?_
    refine G_iret dX10_travel_29 rfl rfl ?_
    have e : p = (psS (rwS (labF g) v f (g 0) (g 1))).1 - 1 := by omega
    subst e
    exact ⟨rfl, hR⟩
  · refine G_iload_n dX10_travel_14 rfl rfl ?_
    refine G_aload_n dX10_travel_15 rfl rfl ?_
    refine G_iload_n dX10_travel_16 rfl rfl ?_
    refine G_callVi (ν := uX10_hiddenOf) (As := [.inl (nI p)]) dX10_travel_17 nX10_199 kX10_hiddenOf rfl rfl rfl rfl rfl (Nat.le_of_ble_eq_true rfl) (y_hiddenOf (FT_s (R69_T hR) hs) hk (FT_O (R69_T hR) hO) v2 (SWm_T hW hR) (by omega)) ?_
    rintro _ M2 ⟨rfl, hR2⟩
    refine G_iadd (v := (nI (fb_sm (hid g v (rwS (labF g) v f (g 0) (g 1)) (psS (rwS (labF g) v f (g 0) (g 1)))) (p + 1)))) dX10_travel_20 (by rw [hsm]; exact nI_add _ _) ?_
    refine G_istore_n (L2 := [some (.inr 50), some (.inl (nI (fb_sm (hid g v (rwS (labF g) v f (g 0) (g 1)) (psS (rwS (labF g) v f (g 0) (g 1)))) (p + 1)))), some (.inl (nI p))]) dX10_travel_21 rfl (Nat.le_of_ble_eq_true rfl) rfl ?_
    refine G_iinc (v := (nI (p + 1))) (L2 := [some (.inr 50), some (.inl (nI (fb_sm (hid g v (rwS (labF g) v f (g 0) (g 1)) (psS (rwS (labF g) v f (g 0) (g 1)))) (p + 1)))), some (.inl (nI (p + 1)))]) dX10_travel_22 rfl (nI_1 _) rfl ?_
    refine G_goto (tgt := 4) dX10_travel_25 (by decide) ?_
    exact ih ((psS (rwS (labF g) v f (g 0) (g 1))).1 - (p + 1)) (by omega) (p + 1) M2 rfl (by omega) (fun q z => (hR2 q z).trans (hR q z))
theorem y_travel {d v f : Nat} {g : Nat → Nat} {M : Mem} (hs : hS g (M 51)) (hk : gok g) (hO : FOg g M) (v2 : v < 2) (hW : SWm g v f M) : Call l α D cA uX10_travel (d + 3) [.inr 50] M (fun q M1 => q = .inl (nI (fb_sm (hid g v (rwS (labF g) v f (g 0) (g 1)) (psS (rwS (labF g) v f (g 0) (g 1)))) ((psS (rwS (labF g) v f (g 0) (g 1))).1 - 1))) ∧ R69 M M1) := by
  refine Call.of kX10_travel.1 (Nat.le_of_ble_eq_true rfl) ?_
  refine G_iconst (v := (nI 0)) dX10_travel_0 (by decide) ?_
  refine G_istore_n (L2 := [some (.inr 50), some (.inl (nI 0)), none]) dX10_travel_1 rfl (Nat.le_of_ble_eq_true rfl) rfl ?_
  refine G_iconst (v := (nI 0)) dX10_travel_2 (by decide) ?_
  refine G_istore_n (L2 := [some (.inr 50), some (.inl (nI 0)), some (.inl (nI 0))]) dX10_travel_3 rfl (Nat.le_of_ble_eq_true rfl) rfl ?_
  exact ly_travel hs hk hO v2 hW _ 0 M rfl (Nat.zero_le _) (fun _ _ => rfl)
theorem ly_stitches {d v f : Nat} {g : Nat → Nat} {M : Mem} (hs : hS g (M 51)) (hk : gok g) (hO : FOg g M) (v2 : v < 2) (hW : SWm g v f M) : ∀ (k r : Nat), (rwS (labF g) v f (g 0) (g 1)).1 - r = k → r ≤ (rwS (labF g) v f (g 0) (g 1)).1 → G l α D cA uX10_stitches none (d + 2) (fun q M1 => q = .inl (nI (fb_sm (rSti (rwS (labF g) v f (g 0) (g 1)) (g 2)) (rwS (labF g) v f (g 0) (g 1)).1)) ∧ M1 = M) 4 [some (.inr 50), some (.inl (nI (fb_sm (rSti (rwS (labF g) v f (g 0) (g 1)) (g 2)) r))), some (.inl (nI r))] [] M := by
  have hB := rwS_RB (F := labF g) (w := v) (f := f) hk.1.2 hk.2.1.2
  have hPI := rwS_PI (F := labF g) (w := v) (f := f) (W := g 0) (H := g 1)
  have hb := hB.1
  have hb2 := hPI.1
  intro k
  induction k using Nat.strongRecOn with
  | _ k ih => ?_
  intro r hkk hr
  have hsm : fb_sm (rSti (rwS (labF g) v f (g 0) (g 1)) (g 2)) (r + 1) = fb_sm (rSti (rwS (labF g) v f (g 0) (g 1)) (g 2)) r + rSti (rwS (labF g) v f (g 0) (g 1)) (g 2) r := fb_sm_succ _ _
  refine G_iload_n dX10_stitches_4 rfl rfl ?_
  refine G_aload_n dX10_stitches_5 rfl rfl ?_
  refine G_getI (v := (nI ((rwS (labF g) v f (g 0) (g 1)).1))) dX10_stitches_6 fX10_172 rfl rfl hW.2.1.1 ?_
  refine Gn_icmp_ge (tgt := 26) dX10_stitches_9 (by decide) (by omega) (by omega) (fun h9 => ?_) (fun h9 => ?_)
  · refine G_iload_n dX10_stitches_26 rfl rfl ?_
    refine G_iret dX10_stitches_27 rfl rfl ?_
    have e : r = (rwS (labF g) v f (g 0) (g 1)).1 := by omega
    subst e
    exact ⟨rfl, rfl⟩
  · refine G_iload_n dX10_stitches_12 rfl rfl ?_
    refine G_aload_n dX10_stitches_13 rfl rfl ?_
    refine G_iload_n dX10_stitches_14 rfl rfl ?_
    refine G_callVi (ν := uX10_stitchesOf) (As := [.inl (nI r)]) dX10_stitches_15 nX10_202 kX10_stitchesOf rfl rfl rfl rfl rfl (Nat.le_of_ble_eq_true rfl) (y_stitchesOf hs hk hO v2 hW (by omega)) ?_
    rintro _ M8 ⟨rfl, e9⟩
    subst M8
    refine G_iadd (v := (nI (fb_sm (rSti (rwS (labF g) v f (g 0) (g 1)) (g 2)) (r + 1)))) dX10_stitches_18 (by rw [hsm]; exact nI_add _ _) ?_
    refine G_istore_n (L2 := [some (.inr 50), some (.inl (nI (fb_sm (rSti (rwS (labF g) v f (g 0) (g 1)) (g 2)) (r + 1)))), some (.inl (nI r))]) dX10_stitches_19 rfl (Nat.le_of_ble_eq_true rfl) rfl ?_
    refine G_iinc (v := (nI (r + 1))) (L2 := [some (.inr 50), some (.inl (nI (fb_sm (rSti (rwS (labF g) v f (g 0) (g 1)) (g 2)) (r + 1)))), some (.inl (nI (r + 1)))]) dX10_stitches_20 rfl (nI_1 _) rfl ?_
    refine G_goto (tgt := 4) dX10_stitches_23 (by decide) ?_
    exact ih ((rwS (labF g) v f (g 0) (g 1)).1 - (r + 1)) (by omega) (r + 1) rfl (by omega)
theorem y_stitches {d v f : Nat} {g : Nat → Nat} {M : Mem} (hs : hS g (M 51)) (hk : gok g) (hO : FOg g M) (v2 : v < 2) (hW : SWm g v f M) : Call l α D cA uX10_stitches (d + 2) [.inr 50] M (fun q M1 => q = .inl (nI (fb_sm (rSti (rwS (labF g) v f (g 0) (g 1)) (g 2)) (rwS (labF g) v f (g 0) (g 1)).1)) ∧ M1 = M) := by
  refine Call.of kX10_stitches.1 (Nat.le_of_ble_eq_true rfl) ?_
  refine G_iconst (v := (nI 0)) dX10_stitches_0 (by decide) ?_
  refine G_istore_n (L2 := [some (.inr 50), some (.inl (nI 0)), none]) dX10_stitches_1 rfl (Nat.le_of_ble_eq_true rfl) rfl ?_
  refine G_iconst (v := (nI 0)) dX10_stitches_2 (by decide) ?_
  refine G_istore_n (L2 := [some (.inr 50), some (.inl (nI 0)), some (.inl (nI 0))]) dX10_stitches_3 rfl (Nat.le_of_ble_eq_true rfl) rfl ?_
  exact ly_stitches hs hk hO v2 hW _ 0 rfl (Nat.zero_le _)
theorem y_toldOf {d v f k : Nat} {g : Nat → Nat} {M : Mem} (hs : hS g (M 51)) (hk : gok g) (hO : FOg g M) (v2 : v < 2) (hf : f < labN g) (k4 : k < 4) : Call l α D cA uX10_toldOf (d + 4) [.inr 50, .inl (nI f), .inl (nI v), .inl (nI k)] M (fun q M1 => q = .inl (nI (figG g v f k)) ∧ FT M M1 ∧ FOg g M1) := by
  refine Call.of kX10_toldOf.1 (Nat.le_of_ble_eq_true rfl) ?_
  refine G_aload_n dX10_toldOf_0 rfl rfl ?_
  refine G_iload_n dX10_toldOf_1 rfl rfl ?_
  refine G_iload_n dX10_toldOf_2 rfl rfl ?_
  refine G_callVv (ν := uX10_laysRows) (As := [.inl (nI f), .inl (nI v)]) dX10_toldOf_3 nX10_205 kX10_laysRows rfl rfl rfl rfl rfl (Nat.le_of_ble_eq_true rfl) (y_laysRows hs hk hO v2 hf) ?_
  rintro _ M2 ⟨hF2, hO2, hW2⟩
  refine G_iload_n dX10_toldOf_6 rfl rfl ?_
  refine Gn_if_ne (tgt := 17) dX10_toldOf_7 (by decide) (by omega) (fun h7 => ?_) (fun h7 => ?_)
  · refine G_iload_n dX10_toldOf_17 rfl rfl ?_
    refine G_iconst (v := (nI 1)) dX10_toldOf_18 (by decide) ?_
    refine Gn_icmp_ne (tgt := 29) dX10_toldOf_19 (by decide) (by omega) (by omega) (fun h19 => ?_) (fun h19 => ?_)
    · refine G_iload_n dX10_toldOf_29 rfl rfl ?_
      refine G_iconst (v := (nI 2)) dX10_toldOf_30 (by decide) ?_
      refine Gn_icmp_ne (tgt := 41) dX10_toldOf_31 (by decide) (by omega) (by omega) (fun h31 => ?_) (fun h31 => ?_)
      · refine G_aload_n dX10_toldOf_41 rfl rfl ?_
        refine G_callVi (ν := uX10_travel) (As := []) dX10_toldOf_42 nX10_211 kX10_travel rfl rfl rfl rfl rfl (Nat.le_of_ble_eq_true rfl) (y_travel (FT_s hF2 hs) hk hO2 v2 hW2) ?_
        rintro _ M3 ⟨rfl, hR3⟩
        refine G_iret dX10_toldOf_45 rfl rfl ?_
        have e : k = 3 := by omega
        subst e
        exact ⟨rfl, FT_t hF2 (R69_T hR3), FT_O (R69_T hR3) hO2⟩
      · refine G_aload_n dX10_toldOf_34 rfl rfl ?_
        refine G_callVi (ν := uX10_stitches) (As := []) dX10_toldOf_35 nX10_208 kX10_stitches rfl rfl rfl rfl rfl (Nat.le_of_ble_eq_true rfl) (y_stitches (FT_s hF2 hs) hk hO2 v2 hW2) ?_
        rintro _ M8 ⟨rfl, e9⟩
        subst M8
        refine G_goto (tgt := 45) dX10_toldOf_38 (by decide) ?_
        refine G_iret dX10_toldOf_45 rfl rfl ?_
        have e : k = 2 := by omega
        subst e
        exact ⟨rfl, hF2, hO2⟩
    · refine G_aload_n dX10_toldOf_22 rfl rfl ?_
      refine G_getI (v := (nI ((psS (rwS (labF g) v f (g 0) (g 1))).1))) dX10_toldOf_23 fX10_184 rfl rfl hW2.2.2.1 ?_
      refine G_goto (tgt := 45) dX10_toldOf_26 (by decide) ?_
      refine G_iret dX10_toldOf_45 rfl rfl ?_
      have e : k = 1 := by omega
      subst e
      exact ⟨rfl, hF2, hO2⟩
  · refine G_aload_n dX10_toldOf_10 rfl rfl ?_
    refine G_getI (v := (nI ((rwS (labF g) v f (g 0) (g 1)).1))) dX10_toldOf_11 fX10_172 rfl rfl hW2.2.1.1 ?_
    refine G_goto (tgt := 45) dX10_toldOf_14 (by decide) ?_
    refine G_iret dX10_toldOf_45 rfl rfl ?_
    have e : k = 0 := by omega
    subst e
    exact ⟨rfl, hF2, hO2⟩
theorem ly_best {d f : Nat} {g : Nat → Nat} {M : Mem} (hs : hS g (M 51)) (hk : gok g) (hO : FOg g M) (hf : f < labN g) : ∀ (k i : Nat) (M1 : Mem) (x3 x4 : Option AV), 4 - i = k → 1 ≤ i → i ≤ 4 → FT M M1 → FOg g M1 → btr g f = btrF g f (4 - i) i → G l α D cA uX10_bestWay none (d + 5) (fun q M1 => q = .inl (nI (btr g f)) ∧ FT M M1 ∧ FOg g M1) 2 [some (.inr 50), some (.inl (nI f)), some (.inl (nI i)), x3, x4] [] M1 := by
  intro k
  induction k using Nat.strongRecOn with
  | _ k ih => ?_
  intro i M1 x3 x4 hkk hi1 hi4 hF hO1 he0
  have he : ∀ j, 4 - i = j + 1 → btr g f = btrF g f (j + 1) i := fun j hj => by rw [he0, hj]
  refine G_iload_n dX10_bestWay_2 rfl rfl ?_
  refine G_iconst (v := (nI 4)) dX10_bestWay_3 (by decide) ?_
  refine Gn_icmp_ge (tgt := 48) dX10_bestWay_4 (by decide) (by omega) (by omega) (fun h4 => ?_) (fun h4 => ?_)
  · have he : btr g f = btrF g f 0 i := by rw [he0, show 4 - i = 0 by omega]
    refine G_iconst (v := (nI 0)) dX10_bestWay_48 (by decide) ?_
    refine G_iret dX10_bestWay_49 rfl rfl ?_
    have e : i = 4 := by omega
    subst e
    exact ⟨by rw [he]; rfl, hF, hO1⟩
  · refine G_aload_n dX10_bestWay_7 rfl rfl ?_
    refine G_iload_n dX10_bestWay_8 rfl rfl ?_
    refine G_iconst (v := (nI 0)) dX10_bestWay_9 (by decide) ?_
    refine G_iload_n dX10_bestWay_10 rfl rfl ?_
    refine G_callVi (ν := uX10_toldOf) (As := [.inl (nI f), .inl (nI 0), .inl (nI i)]) dX10_bestWay_11 nX10_214 kX10_toldOf rfl rfl rfl rfl rfl (Nat.le_of_ble_eq_true rfl) (y_toldOf (v := 0) (FT_s hF hs) hk hO1 (by decide) hf (by omega)) ?_
    rintro _ M2 ⟨rfl, hF2, hO2⟩
    have l0 := figG_lt (w := 0) (f := f) (k := i) hk (by omega)
    refine G_istore_n (L2 := [some (.inr 50), some (.inl (nI f)), some (.inl (nI i)), some (.inl (nI (figG g 0 f i))), x4]) dX10_bestWay_14 rfl (Nat.le_of_ble_eq_true rfl) rfl ?_
    refine G_aload_n dX10_bestWay_15 rfl rfl ?_
    refine G_iload_n dX10_bestWay_16 rfl rfl ?_
    refine G_iconst (v := (nI 1)) dX10_bestWay_17 (by decide) ?_
    refine G_iload_n dX10_bestWay_18 rfl rfl ?_
    refine G_callVi (ν := uX10_toldOf) (As := [.inl (nI f), .inl (nI 1), .inl (nI i)]) dX10_bestWay_19 nX10_214 kX10_toldOf rfl rfl rfl rfl rfl (Nat.le_of_ble_eq_true rfl) (y_toldOf (v := 1) (FT_s hF2 (FT_s hF hs)) hk hO2 (by decide) hf (by omega)) ?_
    rintro _ M3 ⟨rfl, hF3, hO3⟩
    have l1 := figG_lt (w := 1) (f := f) (k := i) hk (by omega)
    have hFF := FT_t hF (FT_t hF2 hF3)
    refine G_istore (L2 := [some (.inr 50), some (.inl (nI f)), some (.inl (nI i)), some (.inl (nI (figG g 0 f i))), some (.inl (nI (figG g 1 f i)))]) dX10_bestWay_22 (Nat.le_of_ble_eq_true rfl) rfl ?_
    refine G_iload_n dX10_bestWay_24 rfl rfl ?_
    refine G_iload dX10_bestWay_25 rfl ?_
    refine Gn_icmp_eq (tgt := 42) dX10_bestWay_27 (by decide) (by omega) (by omega) (fun h27 => ?_) (fun h27 => ?_)
    · refine G_iinc (v := (nI (i + 1))) (L2 := [some (.inr 50), some (.inl (nI f)), some (.inl (nI (i + 1))), some (.inl (nI (figG g 0 f i))), some (.inl (nI (figG g 1 f i)))]) dX10_bestWay_42 rfl (nI_1 _) rfl ?_
      refine G_goto (tgt := 2) dX10_bestWay_45 (by decide) ?_
      exact ih (4 - (i + 1)) (by omega) (i + 1) M3 _ _ rfl (by omega) (by omega) hFF hO3 (by rw [he (3 - i) (by omega), btrF, if_pos h27, show 3 - i = 4 - (i + 1) by omega])
    · refine G_iload_n dX10_bestWay_30 rfl rfl ?_
      refine G_iload dX10_bestWay_31 rfl ?_
      refine Gn_icmp_ge (tgt := 40) dX10_bestWay_33 (by decide) (by omega) (by omega) (fun h33 => ?_) (fun h33 => ?_)
      · refine G_iconst (v := (nI 1)) dX10_bestWay_40 (by decide) ?_
        refine G_iret dX10_bestWay_41 rfl rfl ?_
        exact ⟨by rw [he (3 - i) (by omega), btrF, if_neg h27, if_neg (by omega)], hFF, hO3⟩
      · refine G_iconst (v := (nI 0)) dX10_bestWay_36 (by decide) ?_
        refine G_goto (tgt := 41) dX10_bestWay_37 (by decide) ?_
        refine G_iret dX10_bestWay_41 rfl rfl ?_
        exact ⟨by rw [he (3 - i) (by omega), btrF, if_neg h27, if_pos (by omega)], hFF, hO3⟩
theorem y_best {d f : Nat} {g : Nat → Nat} {M : Mem} (hs : hS g (M 51)) (hk : gok g) (hO : FOg g M) (hf : f < labN g) : Call l α D cA uX10_bestWay (d + 5) [.inr 50, .inl (nI f)] M (fun q M1 => q = .inl (nI (btr g f)) ∧ FT M M1 ∧ FOg g M1) := by
  refine Call.of kX10_bestWay.1 (Nat.le_of_ble_eq_true rfl) ?_
  refine G_iconst (v := (nI 1)) dX10_bestWay_0 (by decide) ?_
  refine G_istore_n (L2 := [some (.inr 50), some (.inl (nI f)), some (.inl (nI 1)), none, none]) dX10_bestWay_1 rfl (Nat.le_of_ble_eq_true rfl) rfl ?_
  exact ly_best hs hk hO hf _ 1 M _ _ rfl (Nat.le_refl _) (by decide) FT_r hO rfl
end P32
