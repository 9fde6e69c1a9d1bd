/-! Sewing: what is told of rows and parts; stitches, travel; covered cells -/
section P18
variable {l : Launch} {α : Nat → Nat} {D : va_G} {cA : Nat → ClassId}
theorem isd_pred {g : Nat → Nat} {n p q : Nat} (h : isd g (n + 1) p q) : ∃ r, isd g n p r := by
  obtain ⟨h1, h2⟩ := h
  rcases h1 with h1 | ⟨r, ha, hb⟩
  · exact absurd h1 (h2 n (by omega))
  · exact ⟨r, ha, fun m hm hr => h2 (m + 1) (by omega) (Or.inr ⟨r, hr, hb⟩)⟩
theorem isd_all {g : Nat → Nat} {p : Nat} : ∀ {n q : Nat}, isd g n p q → ∀ k, k ≤ n → ∃ r, isd g k p r := by
  intro n
  induction n with
  | zero =>
    intro q h k hk
    have e : k = 0 := by omega
    subst e
    exact ⟨q, h⟩
  | succ n ih =>
    intro q h k hk
    rcases (show k ≤ n ∨ k = n + 1 by omega) with z | z
    · obtain ⟨r, hr⟩ := isd_pred h
      exact ih hr k z
    · subst z
      exact ⟨q, h⟩
theorem isd_48 {g : Nat → Nat} {n p q : Nat} (hp : p < 48) (h : isd g n p q) : n < 48 := by
  have hx : ∀ k, ∃ r, k ≤ n → isd g k p r := fun k => by
    by_cases z : k ≤ n
    · obtain ⟨r, hr⟩ := isd_all h k z
      exact ⟨r, fun _ => hr⟩
    · exact ⟨0, fun y => absurd y z⟩
  have := fb_holes 48 (n + 1) (fun k => Classical.choose (hx k)) (fun i hi => rch_lt hp (Classical.choose_spec (hx i) (by omega)).1) (fun i j hij hj e => by
    have a := Classical.choose_spec (hx i) (by omega)
    have b := Classical.choose_spec (hx j) (by omega)
    have e : Classical.choose (hx i) = Classical.choose (hx j) := e
    rw [← e] at b
    have := isd_one a b
    omega)
  omega
/-- the fewest steps -/
noncomputable def dst (g : Nat → Nat) (a b : Nat) : Nat := Classical.epsilon (fun n => isd g n a b)
theorem dst_is {g : Nat → Nat} {n a b : Nat} (h : isd g n a b) : dst g a b = n := isd_one (Classical.epsilon_spec (p := fun n => isd g n a b) ⟨n, h⟩) h
theorem dst_isd {g : Nat → Nat} {a b : Nat} (h : conn g a b) : isd g (dst g a b) a b := Classical.epsilon_spec (p := fun n => isd g n a b) (conn_isd h)
theorem sub1_nlt {n p : Nat} (h : ¬ p + 1 < n) (hp : p < 2 ^ 31) (hn : n < 2 ^ 31) : ¬ (nI p < nI n - nI 1) := by
  rcases Nat.eq_zero_or_pos n with z | z
  · subst z
    intro q
    have e : nI 0 - nI 1 = -1 := by decide
    rw [e] at q
    have := nI_pos hp
    grind
  · rw [pk_sub z]
    exact nI_nlt (by omega) hp
def rLen (s : RS) (r : Nat) : Nat := s.2.2.2 r - s.2.2.1 r + 1
def rSti (s : RS) (m r : Nat) : Nat := (rLen s r + m - 1) / m
def pBeg (w : Nat) (s : RS) (P : PS) (p : Nat) : Nat := plc w (s.2.1 (P.2.2.1 p)) (s.2.2.1 (P.2.2.1 p))
def pEnd (w : Nat) (s : RS) (P : PS) (p : Nat) : Nat := if P.2.2.2.2 p % 2 = 1 then plc w (s.2.1 (P.2.2.2.1 p)) (s.2.2.2 (P.2.2.2.1 p)) else plc w (s.2.1 (P.2.2.2.1 p)) (s.2.2.1 (P.2.2.2.1 p))
noncomputable def hid (g : Nat → Nat) (w : Nat) (s : RS) (P : PS) (p : Nat) : Nat := dst g (pEnd w s P p) (pBeg w s P (p + 1))
noncomputable def fig (g : Nat → Nat) (w m : Nat) (s : RS) (what : Nat) : Nat := match what with
  | 0 => s.1
  | 1 => (psS s).1
  | 2 => fb_sm (rSti s m) s.1
  | _ => fb_sm (hid g w s (psS s)) ((psS s).1 - 1)
theorem rwS_PI {F : Nat → Option Nat} {w f W H : Nat} : PI (rwS F w f W H).1 (psS (rwS F w f W H)) := PI_S (fun r b h => NX_lt (rwS_RI).2.2.1 (prd_some h).1 (prd_some h).2.1) _
/-- a part's ends are cells of the field -/
theorem rwS_in {F : Nat → Option Nat} {w f W H r : Nat} (hr : r < (rwS F w f W H).1) : F (plc w ((rwS F w f W H).2.1 r) ((rwS F w f W H).2.2.1 r)) = some f ∧ F (plc w ((rwS F w f W H).2.1 r) ((rwS F w f W H).2.2.2 r)) = some f := by
  obtain ⟨x1, x2, x3, x4, x5, x6⟩ := (rwS_RI (F := F) (w := w) (f := f) (W := W) (H := H)).2.1 r hr
  exact ⟨of_decide_eq_true x5, of_decide_eq_true x6⟩
theorem rwS_grid {F : Nat → Option Nat} {w f W H r : Nat} (hW : W ≤ 8) (hH : H ≤ 6) (hr : r < (rwS F w f W H).1) : plc w ((rwS F w f W H).2.1 r) ((rwS F w f W H).2.2.1 r) < 48 ∧ plc w ((rwS F w f W H).2.1 r) ((rwS F w f W H).2.2.2 r) < 48 := by
  obtain ⟨x1, x2, x3, x4, x5, x6⟩ := (rwS_RI (F := F) (w := w) (f := f) (W := W) (H := H)).2.1 r hr
  have hi : (rwS F w f W H).2.1 r < lcO w W H := by
    rcases (show (rwS F w f W H).2.1 r < lcO w W H ∨ (rwS F w f W H).2.1 r = lcO w W H by omega) with z | z
    · exact z
    · have := x4 z
      omega
  exact ⟨inG_lt (ll_in hW hH hi (by omega)).1, inG_lt (ll_in hW hH hi x3).1⟩
theorem pEnd_in {F : Nat → Option Nat} {w f W H p : Nat} (hW : W ≤ 8) (hH : H ≤ 6) (hp : p < (psS (rwS F w f W H)).1) : F (pEnd w (rwS F w f W H) (psS (rwS F w f W H)) p) = some f ∧ pEnd w (rwS F w f W H) (psS (rwS F w f W H)) p < 48 := by
  have hr := ((rwS_PI (F := F) (w := w) (f := f) (W := W) (H := H)).2.2 p hp).2.1
  unfold pEnd
  split
  · exact ⟨(rwS_in hr).2, (rwS_grid hW hH hr).2⟩
  · exact ⟨(rwS_in hr).1, (rwS_grid hW hH hr).1⟩
theorem pBeg_in {F : Nat → Option Nat} {w f W H p : Nat} (hW : W ≤ 8) (hH : H ≤ 6) (hp : p < (psS (rwS F w f W H)).1) : F (pBeg w (rwS F w f W H) (psS (rwS F w f W H)) p) = some f ∧ pBeg w (rwS F w f W H) (psS (rwS F w f W H)) p < 48 := by
  have hr := ((rwS_PI (F := F) (w := w) (f := f) (W := W) (H := H)).2.2 p hp).1
  exact ⟨(rwS_in hr).1, (rwS_grid hW hH hr).1⟩
theorem lab_conn {g : Nat → Nat} {f p q : Nat} (hp : labF g p = some f) (hq : labF g q = some f) : conn g p q ∧ g (12 + p) ≠ 0 := by
  have hI := labF_inv g
  have hf := hI.2.1 p f hp
  obtain ⟨x1, x2, x3, x4⟩ := hI.2.2.1 f hf
  have a := (x3 p).mp hp
  have b := (x3 q).mp hq
  exact ⟨conn_trans (conn_symm (by omega) a) b, by rw [conn_col a]; exact x2⟩
theorem c_rowsLaid {d w f W H m : Nat} {F : Nat → Option Nat} {M : Mem} (hS : SWx F w f W H m M) (hW : W ≤ 8) (hH : H ≤ 6) : Call l α D cA uX5_rowsLaid d [.inr 17] M (fun q M1 => q = .inl (nI ((rwS F w f W H).1)) ∧ M1 = M) := by
  refine Call.of kX5_rowsLaid.1 (Nat.le_of_ble_eq_true rfl) ?_
  have k0 := (rwS_RB (F := F) (w := w) (f := f) hW hH).1
  have k1 := (rwS_PI (F := F) (w := w) (f := f) (W := W) (H := H)).1
  refine G_aload_n dX5_rowsLaid_0 rfl rfl ?_
  refine G_getI (v := (nI ((rwS F w f W H).1))) dX5_rowsLaid_1 fX5_69 rfl rfl hS.2.2.1.1 ?_
  refine G_iret dX5_rowsLaid_4 rfl rfl ?_
  exact ⟨rfl, rfl⟩
theorem c_partsLaid {d w f W H m : Nat} {F : Nat → Option Nat} {M : Mem} (hS : SWx F w f W H m M) (hW : W ≤ 8) (hH : H ≤ 6) : Call l α D cA uX5_partsLaid d [.inr 17] M (fun q M1 => q = .inl (nI ((psS (rwS F w f W H)).1)) ∧ M1 = M) := by
  refine Call.of kX5_partsLaid.1 (Nat.le_of_ble_eq_true rfl) ?_
  have k0 := (rwS_RB (F := F) (w := w) (f := f) hW hH).1
  have k1 := (rwS_PI (F := F) (w := w) (f := f) (W := W) (H := H)).1
  refine G_aload_n dX5_partsLaid_0 rfl rfl ?_
  refine G_getI (v := (nI ((psS (rwS F w f W H)).1))) dX5_partsLaid_1 fX5_80 rfl rfl hS.2.2.2.1 ?_
  refine G_iret dX5_partsLaid_4 rfl rfl ?_
  exact ⟨rfl, rfl⟩
theorem c_rowStart {d r w f W H m : Nat} {F : Nat → Option Nat} {M : Mem} (hS : SWx F w f W H m M) (hW : W ≤ 8) (hH : H ≤ 6) (hr : r < (rwS F w f W H).1) : Call l α D cA uX5_rowStart (d + 1) [.inr 17, .inl (nI r)] M (fun q M1 => q = .inl (nI (plc w ((rwS F w f W H).2.1 r) ((rwS F w f W H).2.2.1 r))) ∧ M1 = M) := by
  refine Call.of kX5_rowStart.1 (Nat.le_of_ble_eq_true rfl) ?_
  have k0 := (rwS_RB (F := F) (w := w) (f := f) hW hH).1
  have k1 := (rwS_PI (F := F) (w := w) (f := f) (W := W) (H := H)).1
  refine G_aload_n dX5_rowStart_0 rfl rfl ?_
  refine G_getR (j := 24) dX5_rowStart_1 fX5_28 rfl rfl ?_
  refine G_iload_n dX5_rowStart_4 rfl rfl ?_
  refine G_callSi (ν := uX9_at) (As := [.inr 24, .inl (nI r)]) dX5_rowStart_5 nX5_72 kX9_at rfl rfl rfl (Nat.le_of_ble_eq_true rfl) (c_at (o := 24) (n := 48) rfl (by decide) (by omega)) ?_
  rintro _ M8 ⟨rfl, e9⟩
  subst M8
  rw [(hS.2.2.1.2 _ hr).2.2.2.1]
  refine G_iret dX5_rowStart_8 rfl rfl ?_
  exact ⟨rfl, rfl⟩
theorem c_rowPart {d r w f W H m : Nat} {F : Nat → Option Nat} {M : Mem} (hS : SWx F w f W H m M) (hW : W ≤ 8) (hH : H ≤ 6) (hr : r < (rwS F w f W H).1) : Call l α D cA uX5_rowPart (d + 1) [.inr 17, .inl (nI r)] M (fun q M1 => q = .inl (nI ((psS (rwS F w f W H)).2.1 r)) ∧ M1 = M) := by
  refine Call.of kX5_rowPart.1 (Nat.le_of_ble_eq_true rfl) ?_
  have k0 := (rwS_RB (F := F) (w := w) (f := f) hW hH).1
  have k1 := (rwS_PI (F := F) (w := w) (f := f) (W := W) (H := H)).1
  refine G_aload_n dX5_rowPart_0 rfl rfl ?_
  refine G_getR (j := 26) dX5_rowPart_1 fX5_34 rfl rfl ?_
  refine G_iload_n dX5_rowPart_4 rfl rfl ?_
  refine G_callSi (ν := uX9_at) (As := [.inr 26, .inl (nI r)]) dX5_rowPart_5 nX5_72 kX9_at rfl rfl rfl (Nat.le_of_ble_eq_true rfl) (c_at (o := 26) (n := 48) rfl (by decide) (by omega)) ?_
  rintro _ M8 ⟨rfl, e9⟩
  subst M8
  rw [hS.2.2.2.2.1 r hr]
  refine G_iret dX5_rowPart_8 rfl rfl ?_
  exact ⟨rfl, rfl⟩
theorem c_rowLength {d r w f W H m : Nat} {F : Nat → Option Nat} {M : Mem} (hS : SWx F w f W H m M) (hW : W ≤ 8) (hH : H ≤ 6) (hr : r < (rwS F w f W H).1) : Call l α D cA uX5_rowLength (d + 1) [.inr 17, .inl (nI r)] M (fun q M1 => q = .inl (nI (rLen (rwS F w f W H) r)) ∧ M1 = M) := by
  refine Call.of kX5_rowLength.1 (Nat.le_of_ble_eq_true rfl) ?_
  have k0 := (rwS_RB (F := F) (w := w) (f := f) hW hH).1
  have k1 := (rwS_PI (F := F) (w := w) (f := f) (W := W) (H := H)).1
  refine G_aload_n dX5_rowLength_0 rfl rfl ?_
  refine G_getR (j := 23) dX5_rowLength_1 fX5_25 rfl rfl ?_
  refine G_iload_n dX5_rowLength_4 rfl rfl ?_
  refine G_callSi (ν := uX9_at) (As := [.inr 23, .inl (nI r)]) dX5_rowLength_5 nX5_72 kX9_at rfl rfl rfl (Nat.le_of_ble_eq_true rfl) (c_at (o := 23) (n := 48) rfl (by decide) (by omega)) ?_
  rintro _ M8 ⟨rfl, e9⟩
  subst M8
  rw [(hS.2.2.1.2 r hr).2.2.1]
  refine G_aload_n dX5_rowLength_8 rfl rfl ?_
  refine G_getR (j := 22) dX5_rowLength_9 fX5_22 rfl rfl ?_
  refine G_iload_n dX5_rowLength_12 rfl rfl ?_
  refine G_callSi (ν := uX9_at) (As := [.inr 22, .inl (nI r)]) dX5_rowLength_13 nX5_72 kX9_at rfl rfl rfl (Nat.le_of_ble_eq_true rfl) (c_at (o := 22) (n := 48) rfl (by decide) (by omega)) ?_
  rintro _ M8 ⟨rfl, e9⟩
  subst M8
  rw [(hS.2.2.1.2 r hr).2.1]
  have hle := (rwS_RI (F := F) (w := w) (f := f) (W := W) (H := H)).2.1 r hr
  refine G_isub (v := (nI (((rwS F w f W H).2.2.2 r) - ((rwS F w f W H).2.2.1 r)))) dX5_rowLength_16 (pk_sub (by omega)) ?_
  refine G_iconst (v := (nI 1)) dX5_rowLength_17 (by decide) ?_
  refine G_iadd (v := (nI ((((rwS F w f W H).2.2.2 r) - ((rwS F w f W H).2.2.1 r)) + 1))) dX5_rowLength_18 (nI_add _ _) ?_
  refine G_iret dX5_rowLength_19 rfl rfl ?_
  exact ⟨rfl, rfl⟩
theorem c_rowStitches {d r w f W H m : Nat} {F : Nat → Option Nat} {M : Mem} (hS : SWx F w f W H m M) (hW : W ≤ 8) (hH : H ≤ 6) (hr : r < (rwS F w f W H).1) (hm : 1 ≤ m) (hm5 : m ≤ 5) : Call l α D cA uX5_rowStitches (d + 2) [.inr 17, .inl (nI r)] M (fun q M1 => q = .inl (nI (rSti (rwS F w f W H) m r)) ∧ M1 = M) := by
  refine Call.of kX5_rowStitches.1 (Nat.le_of_ble_eq_true rfl) ?_
  have k0 := (rwS_RB (F := F) (w := w) (f := f) hW hH).1
  have k1 := (rwS_PI (F := F) (w := w) (f := f) (W := W) (H := H)).1
  refine G_aload_n dX5_rowStitches_0 rfl rfl ?_
  refine G_getI (v := (nI m)) dX5_rowStitches_1 fX5_60 rfl rfl hS.2.1 ?_
  refine G_iconst (v := (nI 1)) dX5_rowStitches_4 (by decide) ?_
  refine Gn_icmp_ge (tgt := 12) dX5_rowStitches_5 (by decide) (by omega) (by omega) (fun h5 => ?_) (fun h5 => ?_)
  · refine G_aload_n dX5_rowStitches_12 rfl rfl ?_
    refine G_iload_n dX5_rowStitches_13 rfl rfl ?_
    refine G_callVi (ν := uX5_rowLength) (As := [.inl (nI r)]) dX5_rowStitches_14 nX5_76 kX5_rowLength rfl rfl rfl rfl rfl (Nat.le_of_ble_eq_true rfl) (c_rowLength hS hW hH hr) ?_
    rintro _ M8 ⟨rfl, e9⟩
    subst M8
    refine G_aload_n dX5_rowStitches_17 rfl rfl ?_
    refine G_getI (v := (nI m)) dX5_rowStitches_18 fX5_60 rfl rfl hS.2.1 ?_
    refine G_iadd (v := (nI ((rLen (rwS F w f W H) r) + m))) dX5_rowStitches_21 (nI_add _ _) ?_
    refine G_iconst (v := (nI 1)) dX5_rowStitches_22 (by decide) ?_
    refine G_isub (v := (nI (((rLen (rwS F w f W H) r) + m) - 1))) dX5_rowStitches_23 (pk_sub (by omega)) ?_
    refine G_aload_n dX5_rowStitches_24 rfl rfl ?_
    refine G_getI (v := (nI m)) dX5_rowStitches_25 fX5_60 rfl rfl hS.2.1 ?_
    have hle := (rwS_RI (F := F) (w := w) (f := f) (W := W) (H := H)).2.1 r hr
    have hb2 := (rwS_RB (F := F) (w := w) (f := f) hW hH).2 r hr
    have hl2 : rLen (rwS F w f W H) r ≤ 48 := by unfold rLen; omega
    refine G_idiv (v := (nI ((((rLen (rwS F w f W H) r) + m) - 1) / m))) dX5_rowStitches_28 (nI_ne0 (by omega) (by omega)) (pk_div (by omega) (by omega) (by omega)) ?_
    refine G_iret dX5_rowStitches_29 rfl rfl ?_
    exact ⟨rfl, rfl⟩
  · omega
theorem c_partRows {d p w f W H m : Nat} {F : Nat → Option Nat} {M : Mem} (hS : SWx F w f W H m M) (hW : W ≤ 8) (hH : H ≤ 6) (hp : p < (psS (rwS F w f W H)).1) : Call l α D cA uX5_partRows (d + 1) [.inr 17, .inl (nI p)] M (fun q M1 => q = .inl (nI ((psS (rwS F w f W H)).2.2.2.2 p)) ∧ M1 = M) := by
  refine Call.of kX5_partRows.1 (Nat.le_of_ble_eq_true rfl) ?_
  have k0 := (rwS_RB (F := F) (w := w) (f := f) hW hH).1
  have k1 := (rwS_PI (F := F) (w := w) (f := f) (W := W) (H := H)).1
  refine G_aload_n dX5_partRows_0 rfl rfl ?_
  refine G_getR (j := 29) dX5_partRows_1 fX5_43 rfl rfl ?_
  refine G_iload_n dX5_partRows_4 rfl rfl ?_
  refine G_callSi (ν := uX9_at) (As := [.inr 29, .inl (nI p)]) dX5_partRows_5 nX5_72 kX9_at rfl rfl rfl (Nat.le_of_ble_eq_true rfl) (c_at (o := 29) (n := 48) rfl (by decide) (by omega)) ?_
  rintro _ M8 ⟨rfl, e9⟩
  subst M8
  rw [(hS.2.2.2.2.2 p hp).2.2]
  refine G_iret dX5_partRows_8 rfl rfl ?_
  exact ⟨rfl, rfl⟩
theorem c_partStart {d p w f W H m : Nat} {F : Nat → Option Nat} {M : Mem} (hS : SWx F w f W H m M) (hW : W ≤ 8) (hH : H ≤ 6) (hp : p < (psS (rwS F w f W H)).1) : Call l α D cA uX5_partStart (d + 1) [.inr 17, .inl (nI p)] M (fun q M1 => q = .inl (nI (pBeg w (rwS F w f W H) (psS (rwS F w f W H)) p)) ∧ M1 = M) := by
  refine Call.of kX5_partStart.1 (Nat.le_of_ble_eq_true rfl) ?_
  have k0 := (rwS_RB (F := F) (w := w) (f := f) hW hH).1
  have k1 := (rwS_PI (F := F) (w := w) (f := f) (W := W) (H := H)).1
  refine G_aload_n dX5_partStart_0 rfl rfl ?_
  refine G_getR (j := 24) dX5_partStart_1 fX5_28 rfl rfl ?_
  refine G_aload_n dX5_partStart_4 rfl rfl ?_
  refine G_getR (j := 27) dX5_partStart_5 fX5_37 rfl rfl ?_
  refine G_iload_n dX5_partStart_8 rfl rfl ?_
  refine G_callSi (ν := uX9_at) (As := [.inr 27, .inl (nI p)]) dX5_partStart_9 nX5_72 kX9_at rfl rfl rfl (Nat.le_of_ble_eq_true rfl) (c_at (o := 27) (n := 48) rfl (by decide) (by omega)) ?_
  rintro _ M8 ⟨rfl, e9⟩
  subst M8
  rw [(hS.2.2.2.2.2 p hp).1]
  have hr2 := ((rwS_PI (F := F) (w := w) (f := f) (W := W) (H := H)).2.2 p hp).1
  refine G_callSi (ν := uX9_at) (As := [.inr 24, .inl (nI ((psS (rwS F w f W H)).2.2.1 p))]) dX5_partStart_12 nX5_72 kX9_at rfl rfl rfl (Nat.le_of_ble_eq_true rfl) (c_at (o := 24) (n := 48) rfl (by decide) (by omega)) ?_
  rintro _ M8 ⟨rfl, e9⟩
  subst M8
  rw [(hS.2.2.1.2 _ hr2).2.2.2.1]
  refine G_iret dX5_partStart_15 rfl rfl ?_
  exact ⟨rfl, rfl⟩
theorem c_partEnd {d p w f W H m : Nat} {F : Nat → Option Nat} {M : Mem} (hS : SWx F w f W H m M) (hW : W ≤ 8) (hH : H ≤ 6) (hp : p < (psS (rwS F w f W H)).1) : Call l α D cA uX5_partEnd (d + 1) [.inr 17, .inl (nI p)] M (fun q M1 => q = .inl (nI (pEnd w (rwS F w f W H) (psS (rwS F w f W H)) p)) ∧ M1 = M) := by
  refine Call.of kX5_partEnd.1 (Nat.le_of_ble_eq_true rfl) ?_
  have k0 := (rwS_RB (F := F) (w := w) (f := f) hW hH).1
  have k1 := (rwS_PI (F := F) (w := w) (f := f) (W := W) (H := H)).1
  refine G_aload_n dX5_partEnd_0 rfl rfl ?_
  refine G_getR (j := 29) dX5_partEnd_1 fX5_43 rfl rfl ?_
  refine G_iload_n dX5_partEnd_4 rfl rfl ?_
  refine G_callSi (ν := uX9_at) (As := [.inr 29, .inl (nI p)]) dX5_partEnd_5 nX5_72 kX9_at rfl rfl rfl (Nat.le_of_ble_eq_true rfl) (c_at (o := 29) (n := 48) rfl (by decide) (by omega)) ?_
  rintro _ M8 ⟨rfl, e9⟩
  subst M8
  rw [(hS.2.2.2.2.2 p hp).2.2]
  refine G_iconst (v := (nI 2)) dX5_partEnd_8 (by decide) ?_
  have hr2 := ((rwS_PI (F := F) (w := w) (f := f) (W := W) (H := H)).2.2 p hp).2.2.1
  refine G_irem (v := (nI (((psS (rwS F w f W H)).2.2.2.2 p) % 2))) dX5_partEnd_9 (nI_ne0 (by omega) (by omega)) (pk_rem (by omega) (by omega) (by omega)) ?_
  refine G_iconst (v := (nI 1)) dX5_partEnd_10 (by decide) ?_
  refine Gn_icmp_ne (tgt := 18) dX5_partEnd_11 (by decide) (by omega) (by omega) (fun h11 => ?_) (fun h11 => ?_)
  · refine G_iconst (v := (nI 0)) dX5_partEnd_18 (by decide) ?_
    refine G_istore_n (L2 := [some (.inr 17), some (.inl (nI p)), some (.inl (nI 0))]) dX5_partEnd_19 rfl (Nat.le_of_ble_eq_true rfl) rfl ?_
    refine G_iload_n dX5_partEnd_20 rfl rfl ?_
    refine Gn_if_eq (tgt := 31) dX5_partEnd_21 (by decide) (by omega) (fun h21 => ?_) (fun h21 => ?_)
    · refine G_aload_n dX5_partEnd_31 rfl rfl ?_
      refine G_getR (j := 24) dX5_partEnd_32 fX5_28 rfl rfl ?_
      refine G_aload_n dX5_partEnd_35 rfl rfl ?_
      refine G_getR (j := 28) dX5_partEnd_36 fX5_40 rfl rfl ?_
      refine G_iload_n dX5_partEnd_39 rfl rfl ?_
      refine G_callSi (ν := uX9_at) (As := [.inr 28, .inl (nI p)]) dX5_partEnd_40 nX5_72 kX9_at rfl rfl rfl (Nat.le_of_ble_eq_true rfl) (c_at (o := 28) (n := 48) rfl (by decide) (by omega)) ?_
      rintro _ M8 ⟨rfl, e9⟩
      subst M8
      rw [(hS.2.2.2.2.2 p hp).2.1]
      have hr2 := ((rwS_PI (F := F) (w := w) (f := f) (W := W) (H := H)).2.2 p hp).2.1
      refine G_callSi (ν := uX9_at) (As := [.inr 24, .inl (nI ((psS (rwS F w f W H)).2.2.2.1 p))]) dX5_partEnd_43 nX5_72 kX9_at rfl rfl rfl (Nat.le_of_ble_eq_true rfl) (c_at (o := 24) (n := 48) rfl (by decide) (by omega)) ?_
      rintro _ M8 ⟨rfl, e9⟩
      subst M8
      rw [(hS.2.2.1.2 _ hr2).2.2.2.1]
      refine G_iret dX5_partEnd_46 rfl rfl ?_
      exact ⟨by rw [pEnd, if_neg h11], rfl⟩
    · omega
  · refine G_iconst (v := (nI 1)) dX5_partEnd_14 (by decide) ?_
    refine G_goto (tgt := 19) dX5_partEnd_15 (by decide) ?_
    refine G_istore_n (L2 := [some (.inr 17), some (.inl (nI p)), some (.inl (nI 1))]) dX5_partEnd_19 rfl (Nat.le_of_ble_eq_true rfl) rfl ?_
    refine G_iload_n dX5_partEnd_20 rfl rfl ?_
    refine Gn_if_eq (tgt := 31) dX5_partEnd_21 (by decide) (by omega) (fun h21 => ?_) (fun h21 => ?_)
    · omega
    · refine G_aload_n dX5_partEnd_24 rfl rfl ?_
      refine G_getR (j := 25) dX5_partEnd_25 fX5_31 rfl rfl ?_
      refine G_goto (tgt := 35) dX5_partEnd_28 (by decide) ?_
      refine G_aload_n dX5_partEnd_35 rfl rfl ?_
      refine G_getR (j := 28) dX5_partEnd_36 fX5_40 rfl rfl ?_
      refine G_iload_n dX5_partEnd_39 rfl rfl ?_
      refine G_callSi (ν := uX9_at) (As := [.inr 28, .inl (nI p)]) dX5_partEnd_40 nX5_72 kX9_at rfl rfl rfl (Nat.le_of_ble_eq_true rfl) (c_at (o := 28) (n := 48) rfl (by decide) (by omega)) ?_
      rintro _ M8 ⟨rfl, e9⟩
      subst M8
      rw [(hS.2.2.2.2.2 p hp).2.1]
      have hr2 := ((rwS_PI (F := F) (w := w) (f := f) (W := W) (H := H)).2.2 p hp).2.1
      refine G_callSi (ν := uX9_at) (As := [.inr 25, .inl (nI ((psS (rwS F w f W H)).2.2.2.1 p))]) dX5_partEnd_43 nX5_72 kX9_at rfl rfl rfl (Nat.le_of_ble_eq_true rfl) (c_at (o := 25) (n := 48) rfl (by decide) (by omega)) ?_
      rintro _ M8 ⟨rfl, e9⟩
      subst M8
      rw [(hS.2.2.1.2 _ hr2).2.2.2.2]
      refine G_iret dX5_partEnd_46 rfl rfl ?_
      exact ⟨by rw [pEnd, if_pos h11], rfl⟩
theorem SWx_s {F : Nat → Option Nat} {w f W H m : Nat} {M M1 : Mem} (h : SWx F w f W H m M) (hF : FR_s M M1) : SWx F w f W H m M1 := by
  have e : ∀ q, 20 < q → M1 q = M q := fun q hq => hF q (by omega) (by omega) (by omega)
  have e17 : M1 17 = M 17 := hF 17 (by decide) (by decide) (by decide)
  unfold SWx RWx PRx at *
  rw [e17, e 21 (by decide), e 22 (by decide), e 23 (by decide), e 24 (by decide), e 25 (by decide), e 26 (by decide), e 27 (by decide), e 28 (by decide), e 29 (by decide)]
  exact h
theorem c_hidden {d p w f W H m : Nat} {g : Nat → Nat} {M : Mem} (hS : SWx (labF g) w f W H m M) (hW : W ≤ 8) (hH : H ≤ 6) (hg : hC g (M 2)) (h9 : g9 g) (hp : p + 1 < (psS (rwS (labF g) w f W H)).1) : Call l α D cA uX5_hiddenWay (d + 2) [.inr 17, .inr 1, .inl (nI p)] M (fun q M1 => q = .inl (nI (hid g w (rwS (labF g) w f W H) (psS (rwS (labF g) w f W H)) p)) ∧ FR_s M M1) := by
  refine Call.of kX5_hiddenWay.1 (Nat.le_of_ble_eq_true rfl) ?_
  have k0 := (rwS_RB (F := labF g) (w := w) (f := f) hW hH).1
  have k1 := (rwS_PI (F := labF g) (w := w) (f := f) (W := W) (H := H)).1
  obtain ⟨a1, a2⟩ := pEnd_in (F := labF g) (w := w) (f := f) hW hH (p := p) (by omega)
  obtain ⟨b1, b2⟩ := pBeg_in (F := labF g) (w := w) (f := f) hW hH hp
  refine G_iload_n dX5_hiddenWay_0 rfl rfl ?_
  refine Gn_if_lt (tgt := 14) dX5_hiddenWay_1 (by decide) (by omega) (fun h1 => ?_) (fun h1 => ?_)
  · omega
  · refine G_iload_n dX5_hiddenWay_4 rfl rfl ?_
    refine G_aload_n dX5_hiddenWay_5 rfl rfl ?_
    refine G_getI (v := (nI ((psS (rwS (labF g) w f W H)).1))) dX5_hiddenWay_6 fX5_80 rfl rfl hS.2.2.2.1 ?_
    refine G_iconst (v := (nI 1)) dX5_hiddenWay_9 (by decide) ?_
    refine G_isub (v := (nI (((psS (rwS (labF g) w f W H)).1) - 1))) dX5_hiddenWay_10 (pk_sub (by omega)) ?_
    refine Gn_icmp_lt (tgt := 17) dX5_hiddenWay_11 (by decide) (by omega) (by omega) (fun h11 => ?_) (fun h11 => ?_)
    · refine G_aload_n dX5_hiddenWay_17 rfl rfl ?_
      refine G_getR (j := 18) dX5_hiddenWay_18 fX5_12 rfl rfl ?_
      refine G_aload_n dX5_hiddenWay_21 rfl rfl ?_
      refine G_aload_n dX5_hiddenWay_22 rfl rfl ?_
      refine G_iload_n dX5_hiddenWay_23 rfl rfl ?_
      refine G_callVi (ν := uX5_partEnd) (As := [.inl (nI p)]) dX5_hiddenWay_24 nX5_83 kX5_partEnd rfl rfl rfl rfl rfl (Nat.le_of_ble_eq_true rfl) (c_partEnd hS hW hH (by omega)) ?_
      rintro _ M8 ⟨rfl, e9⟩
      subst M8
      refine G_callVv (ν := uX8_spread) (As := [.inr 1, .inl (nI (pEnd w (rwS (labF g) w f W H) (psS (rwS (labF g) w f W H)) p))]) dX5_hiddenWay_27 nX5_86 kX8_spread rfl rfl rfl rfl rfl (Nat.le_of_ble_eq_true rfl) (c_spread_s hg h9 a2 (lab_conn a1 a1).2) ?_
      rintro _ M9 ⟨hF, n, R, T, hw, hE⟩
      refine G_aload_n dX5_hiddenWay_30 rfl rfl ?_
      refine G_getR (j := 18) dX5_hiddenWay_31 fX5_12 rfl rfl ?_
      refine G_aload_n dX5_hiddenWay_34 rfl rfl ?_
      refine G_iload_n dX5_hiddenWay_35 rfl rfl ?_
      refine G_iconst (v := (nI 1)) dX5_hiddenWay_36 (by decide) ?_
      refine G_iadd (v := (nI (p + 1))) dX5_hiddenWay_37 (nI_add _ _) ?_
      refine G_callVi (ν := uX5_partStart) (As := [.inl (nI (p + 1))]) dX5_hiddenWay_38 nX5_90 kX5_partStart rfl rfl rfl rfl rfl (Nat.le_of_ble_eq_true rfl) (c_partStart (SWx_s hS hF) hW hH hp) ?_
      rintro _ M8 ⟨rfl, e9⟩
      subst M8
      refine G_callVi (ν := uX8_stepsTo) (As := [.inl (nI (pBeg w (rwS (labF g) w f W H) (psS (rwS (labF g) w f W H)) (p + 1)))]) dX5_hiddenWay_41 nX5_93 kX8_stepsTo rfl rfl rfl rfl rfl (Nat.le_of_ble_eq_true rfl) (c_stepsTo_s b2) ?_
      rintro _ M8 ⟨rfl, e9⟩
      subst M8
      rw [hw.2.2 _ b2, (hE.2.2.2.2.2 _ _).mpr (dst_isd (lab_conn a1 b1).1), show oI (some (dst g (pEnd w (rwS (labF g) w f W H) (psS (rwS (labF g) w f W H)) p) (pBeg w (rwS (labF g) w f W H) (psS (rwS (labF g) w f W H)) (p + 1)))) = nI (hid g w (rwS (labF g) w f W H) (psS (rwS (labF g) w f W H)) p) from rfl]
      refine G_iret dX5_hiddenWay_44 rfl rfl ?_
      exact ⟨rfl, hF⟩
    · omega
theorem c_hiddenNo {d p w f W H m : Nat} {g : Nat → Nat} {M : Mem} (hS : SWx (labF g) w f W H m M) (hW : W ≤ 8) (hH : H ≤ 6) (hg : hC g (M 2)) (h9 : g9 g) (hp : ¬ p + 1 < (psS (rwS (labF g) w f W H)).1) (hp2 : p < 2 ^ 31) : Call l α D cA uX5_hiddenWay (d + 2) [.inr 17, .inr 1, .inl (nI p)] M (fun q M1 => q = .inl (-9) ∧ M1 = M) := by
  refine Call.of kX5_hiddenWay.1 (Nat.le_of_ble_eq_true rfl) ?_
  have k0 := (rwS_RB (F := labF g) (w := w) (f := f) hW hH).1
  have k1 := (rwS_PI (F := labF g) (w := w) (f := f) (W := W) (H := H)).1
  refine G_iload_n dX5_hiddenWay_0 rfl rfl ?_
  refine Gn_if_lt (tgt := 14) dX5_hiddenWay_1 (by decide) (by omega) (fun h1 => ?_) (fun h1 => ?_)
  · omega
  · refine G_iload_n dX5_hiddenWay_4 rfl rfl ?_
    refine G_aload_n dX5_hiddenWay_5 rfl rfl ?_
    refine G_getI (v := (nI ((psS (rwS (labF g) w f W H)).1))) dX5_hiddenWay_6 fX5_80 rfl rfl hS.2.2.2.1 ?_
    refine G_iconst (v := (nI 1)) dX5_hiddenWay_9 (by decide) ?_
    refine G_isub (v := (nI (psS (rwS (labF g) w f W H)).1 - nI 1)) dX5_hiddenWay_10 rfl ?_
    refine G_icmp_lt (tgt := 17) dX5_hiddenWay_11 (by decide) (fun h11 => ?_) (fun h11 => ?_)
    · exact absurd h11 (sub1_nlt hp hp2 (by omega))
    · refine G_bipush (v := ((-9))) dX5_hiddenWay_14 (by decide) ?_
      refine G_iret dX5_hiddenWay_16 rfl rfl ?_
      exact ⟨rfl, rfl⟩
theorem l_stitches {d w f W H m : Nat} {F : Nat → Option Nat} {M : Mem} (hS : SWx F w f W H m M) (hW : W ≤ 8) (hH : H ≤ 6) (hm : 1 ≤ m) (hm5 : m ≤ 5) : ∀ k r : Nat, (rwS F w f W H).1 - r = k → r ≤ (rwS F w f W H).1 → G l α D cA uX5_stitches none (d + 3) (fun q M1 => q = .inl (nI (fb_sm (rSti (rwS F w f W H) m) (rwS F w f W H).1)) ∧ M1 = M) 4 [some (.inr 17), some (.inl (nI ((fb_sm (rSti (rwS F w f W H) m) r)))), some (.inl (nI r))] [] M := by
  intro k
  induction k using Nat.strongRecOn with
  | _ k ih => ?_
  intro r hk hr
  have k0 := (rwS_RB (F := F) (w := w) (f := f) hW hH).1
  refine G_iload_n dX5_stitches_4 rfl rfl ?_
  refine G_aload_n dX5_stitches_5 rfl rfl ?_
  refine G_getI (v := (nI ((rwS F w f W H).1))) dX5_stitches_6 fX5_69 rfl rfl hS.2.2.1.1 ?_
  refine Gn_icmp_ge (tgt := 26) dX5_stitches_9 (by decide) (by omega) (by omega) (fun h9 => ?_) (fun h9 => ?_)
  · refine G_iload_n dX5_stitches_26 rfl rfl ?_
    refine G_iret dX5_stitches_27 rfl rfl ?_
    have e : r = (rwS F w f W H).1 := by omega
    exact ⟨by rw [← e], rfl⟩
  · refine G_iload_n dX5_stitches_12 rfl rfl ?_
    refine G_aload_n dX5_stitches_13 rfl rfl ?_
    refine G_iload_n dX5_stitches_14 rfl rfl ?_
    refine G_callVi (ν := uX5_rowStitches) (As := [.inl (nI r)]) dX5_stitches_15 nX5_103 kX5_rowStitches rfl rfl rfl rfl rfl (Nat.le_of_ble_eq_true rfl) (c_rowStitches hS hW hH (by omega) hm hm5) ?_
    rintro _ M8 ⟨rfl, e9⟩
    subst M8
    refine G_iadd (v := (nI (((fb_sm (rSti (rwS F w f W H) m) r)) + (rSti (rwS F w f W H) m r)))) dX5_stitches_18 (nI_add _ _) ?_
    refine G_istore_n (L2 := [some (.inr 17), some (.inl (nI (((fb_sm (rSti (rwS F w f W H) m) r)) + (rSti (rwS F w f W H) m r)))), some (.inl (nI r))]) dX5_stitches_19 rfl (Nat.le_of_ble_eq_true rfl) rfl ?_
    refine G_iinc (v := (nI (r + 1))) (L2 := [some (.inr 17), some (.inl (nI (((fb_sm (rSti (rwS F w f W H) m) r)) + (rSti (rwS F w f W H) m r)))), some (.inl (nI (r + 1)))]) dX5_stitches_20 rfl (nI_1 _) rfl ?_
    refine G_goto (tgt := 4) dX5_stitches_23 (by decide) ?_
    exact ih ((rwS F w f W H).1 - (r + 1)) (by omega) (r + 1) rfl (by omega)
theorem c_stitches {d w f W H m : Nat} {F : Nat → Option Nat} {M : Mem} (hS : SWx F w f W H m M) (hW : W ≤ 8) (hH : H ≤ 6) (hm : 1 ≤ m) (hm5 : m ≤ 5) : Call l α D cA uX5_stitches (d + 3) [.inr 17] M (fun q M1 => q = .inl (nI (fb_sm (rSti (rwS F w f W H) m) (rwS F w f W H).1)) ∧ M1 = M) := by
  refine Call.of kX5_stitches.1 (Nat.le_of_ble_eq_true rfl) ?_
  refine G_iconst (v := (nI 0)) dX5_stitches_0 (by decide) ?_
  refine G_istore_n (L2 := [some (.inr 17), some (.inl (nI 0)), none]) dX5_stitches_1 rfl (Nat.le_of_ble_eq_true rfl) rfl ?_
  refine G_iconst (v := (nI 0)) dX5_stitches_2 (by decide) ?_
  refine G_istore_n (L2 := [some (.inr 17), some (.inl (nI 0)), some (.inl (nI 0))]) dX5_stitches_3 rfl (Nat.le_of_ble_eq_true rfl) rfl ?_
  exact l_stitches hS hW hH hm hm5 _ 0 rfl (Nat.zero_le _)
theorem l_travel {d w f W H m : Nat} {g : Nat → Nat} {M : Mem} (hP1 : 1 ≤ (psS (rwS (labF g) w f W H)).1) (hS : SWx (labF g) w f W H m M) (hW : W ≤ 8) (hH : H ≤ 6) (hg : hC g (M 2)) (h9 : g9 g) : ∀ (k p : Nat) (M1 : Mem), (psS (rwS (labF g) w f W H)).1 - p = k → p + 1 ≤ (psS (rwS (labF g) w f W H)).1 → FR_s M M1 → G l α D cA uX5_travel none (d + 3) (fun q M1 => q = .inl (nI (fb_sm (hid g w (rwS (labF g) w f W H) (psS (rwS (labF g) w f W H))) ((psS (rwS (labF g) w f W H)).1 - 1))) ∧ FR_s M M1) 4 [some (.inr 17), some (.inr 1), some (.inl (nI ((fb_sm (hid g w (rwS (labF g) w f W H) (psS (rwS (labF g) w f W H))) p)))), some (.inl (nI p))] [] M1 := by
  intro k
  induction k using Nat.strongRecOn with
  | _ k ih => ?_
  intro p M1 hk hp hF
  have k0 := (rwS_RB (F := labF g) (w := w) (f := f) hW hH).1
  have k1 := (rwS_PI (F := labF g) (w := w) (f := f) (W := W) (H := H)).1
  have hS1 := SWx_s hS hF
  have hg1 : hC g (M1 2) := by rw [hF 2 (by decide) (by decide) (by decide)]; exact hg
  refine G_iload_n dX5_travel_4 rfl rfl ?_
  refine G_aload_n dX5_travel_5 rfl rfl ?_
  refine G_getI (v := (nI ((psS (rwS (labF g) w f W H)).1))) dX5_travel_6 fX5_80 rfl rfl hS1.2.2.2.1 ?_
  refine G_iconst (v := (nI 1)) dX5_travel_9 (by decide) ?_
  refine G_isub (v := (nI (((psS (rwS (labF g) w f W H)).1) - 1))) dX5_travel_10 (pk_sub (by omega)) ?_
  refine Gn_icmp_ge (tgt := 29) dX5_travel_11 (by decide) (by omega) (by omega) (fun h11 => ?_) (fun h11 => ?_)
  · refine G_iload_n dX5_travel_29 rfl rfl ?_
    refine G_iret dX5_travel_30 rfl rfl ?_
    have e : p = (psS (rwS (labF g) w f W H)).1 - 1 := by omega
    exact ⟨by rw [← e], hF⟩
  · refine G_iload_n dX5_travel_14 rfl rfl ?_
    refine G_aload_n dX5_travel_15 rfl rfl ?_
    refine G_aload_n dX5_travel_16 rfl rfl ?_
    refine G_iload_n dX5_travel_17 rfl rfl ?_
    refine G_callVi (ν := uX5_hiddenWay) (As := [.inr 1, .inl (nI p)]) dX5_travel_18 nX5_106 kX5_hiddenWay rfl rfl rfl rfl rfl (Nat.le_of_ble_eq_true rfl) (c_hidden hS1 hW hH hg1 h9 (by omega)) ?_
    rintro _ M8 ⟨rfl, hF8⟩
    refine G_iadd (v := (nI (((fb_sm (hid g w (rwS (labF g) w f W H) (psS (rwS (labF g) w f W H))) p)) + (hid g w (rwS (labF g) w f W H) (psS (rwS (labF g) w f W H)) p)))) dX5_travel_21 (nI_add _ _) ?_
    refine G_istore_n (L2 := [some (.inr 17), some (.inr 1), some (.inl (nI (((fb_sm (hid g w (rwS (labF g) w f W H) (psS (rwS (labF g) w f W H))) p)) + (hid g w (rwS (labF g) w f W H) (psS (rwS (labF g) w f W H)) p)))), some (.inl (nI p))]) dX5_travel_22 rfl (Nat.le_of_ble_eq_true rfl) rfl ?_
    refine G_iinc (v := (nI (p + 1))) (L2 := [some (.inr 17), some (.inr 1), some (.inl (nI (((fb_sm (hid g w (rwS (labF g) w f W H) (psS (rwS (labF g) w f W H))) p)) + (hid g w (rwS (labF g) w f W H) (psS (rwS (labF g) w f W H)) p)))), some (.inl (nI (p + 1)))]) dX5_travel_23 rfl (nI_1 _) rfl ?_
    refine G_goto (tgt := 4) dX5_travel_26 (by decide) ?_
    exact ih ((psS (rwS (labF g) w f W H)).1 - (p + 1)) (by omega) (p + 1) M8 rfl (by omega) (fun q h1 h2 h3 => (hF8 q h1 h2 h3).trans (hF q h1 h2 h3))
theorem c_travel {d w f W H m : Nat} {g : Nat → Nat} {M : Mem} (hS : SWx (labF g) w f W H m M) (hW : W ≤ 8) (hH : H ≤ 6) (hg : hC g (M 2)) (h9 : g9 g) : Call l α D cA uX5_travel (d + 3) [.inr 17, .inr 1] M (fun q M1 => q = .inl (nI (fb_sm (hid g w (rwS (labF g) w f W H) (psS (rwS (labF g) w f W H))) ((psS (rwS (labF g) w f W H)).1 - 1))) ∧ FR_s M M1) := by
  refine Call.of kX5_travel.1 (Nat.le_of_ble_eq_true rfl) ?_
  refine G_iconst (v := (nI 0)) dX5_travel_0 (by decide) ?_
  refine G_istore_n (L2 := [some (.inr 17), some (.inr 1), some (.inl (nI 0)), none]) dX5_travel_1 rfl (Nat.le_of_ble_eq_true rfl) rfl ?_
  refine G_iconst (v := (nI 0)) dX5_travel_2 (by decide) ?_
  refine G_istore_n (L2 := [some (.inr 17), some (.inr 1), some (.inl (nI 0)), some (.inl (nI 0))]) dX5_travel_3 rfl (Nat.le_of_ble_eq_true rfl) rfl ?_
  by_cases hP1 : 1 ≤ (psS (rwS (labF g) w f W H)).1
  · exact l_travel hP1 hS hW hH hg h9 _ 0 M rfl hP1 (fun _ _ _ _ => rfl)
  · have e0 : (psS (rwS (labF g) w f W H)).1 = 0 := by omega
    refine G_iload_n dX5_travel_4 rfl rfl ?_
    refine G_aload_n dX5_travel_5 rfl rfl ?_
    refine G_getI (v := (nI 0)) dX5_travel_6 fX5_80 rfl rfl (by rw [hS.2.2.2.1, e0]) ?_
    refine G_iconst (v := (nI 1)) dX5_travel_9 (by decide) ?_
    refine G_isub (v := ((-1))) dX5_travel_10 (by decide) ?_
    refine G_icmp_ge (tgt := 29) dX5_travel_11 (by decide) (fun h11 => ?_) (fun h11 => ?_)
    · refine G_iload_n dX5_travel_29 rfl rfl ?_
      refine G_iret dX5_travel_30 rfl rfl ?_
      exact ⟨by rw [e0]; rfl, fun _ _ _ _ => rfl⟩
    · exact absurd (by decide) h11
theorem fig_PX {g : Nat → Nat} {w m : Nat} {s : RS} : fig g w m s 0 = s.1 ∧ fig g w m s 1 = (psS s).1 ∧ fig g w m s 2 = fb_sm (rSti s m) s.1 ∧ fig g w m s 3 = fb_sm (hid g w s (psS s)) ((psS s).1 - 1) := ⟨rfl, rfl, rfl, rfl⟩
theorem c_figure_0 {d w f W H m : Nat} {g : Nat → Nat} {M : Mem} (hS : SWx (labF g) w f W H m M) (hW : W ≤ 8) (hH : H ≤ 6) (hg : hC g (M 2)) (h9 : g9 g) (hm : 1 ≤ m) (hm5 : m ≤ 5) : Call l α D cA uX5_figure (d + 4) [.inr 17, .inr 1, .inl (nI 0)] M (fun q M1 => q = .inl (nI (fig g w m (rwS (labF g) w f W H) 0)) ∧ FR_s M M1) := by
  refine Call.of kX5_figure.1 (Nat.le_of_ble_eq_true rfl) ?_
  refine G_iload_n dX5_figure_0 rfl rfl ?_
  refine G_swIn (tgt := 28) dX5_figure_1 (by decide) (by decide) rfl (by decide) ?_
  refine G_aload_n dX5_figure_28 rfl rfl ?_
  refine G_getI (v := (nI ((rwS (labF g) w f W H).1))) dX5_figure_29 fX5_69 rfl rfl hS.2.2.1.1 ?_
  refine G_iret dX5_figure_32 rfl rfl ?_
  exact ⟨rfl, fun _ _ _ _ => rfl⟩
theorem c_figure_1 {d w f W H m : Nat} {g : Nat → Nat} {M : Mem} (hS : SWx (labF g) w f W H m M) (hW : W ≤ 8) (hH : H ≤ 6) (hg : hC g (M 2)) (h9 : g9 g) (hm : 1 ≤ m) (hm5 : m ≤ 5) : Call l α D cA uX5_figure (d + 4) [.inr 17, .inr 1, .inl (nI 1)] M (fun q M1 => q = .inl (nI (fig g w m (rwS (labF g) w f W H) 1)) ∧ FR_s M M1) := by
  refine Call.of kX5_figure.1 (Nat.le_of_ble_eq_true rfl) ?_
  refine G_iload_n dX5_figure_0 rfl rfl ?_
  refine G_swIn (tgt := 33) dX5_figure_1 (by decide) (by decide) rfl (by decide) ?_
  refine G_aload_n dX5_figure_33 rfl rfl ?_
  refine G_getI (v := (nI ((psS (rwS (labF g) w f W H)).1))) dX5_figure_34 fX5_80 rfl rfl hS.2.2.2.1 ?_
  refine G_iret dX5_figure_37 rfl rfl ?_
  exact ⟨rfl, fun _ _ _ _ => rfl⟩
theorem c_figure_2 {d w f W H m : Nat} {g : Nat → Nat} {M : Mem} (hS : SWx (labF g) w f W H m M) (hW : W ≤ 8) (hH : H ≤ 6) (hg : hC g (M 2)) (h9 : g9 g) (hm : 1 ≤ m) (hm5 : m ≤ 5) : Call l α D cA uX5_figure (d + 4) [.inr 17, .inr 1, .inl (nI 2)] M (fun q M1 => q = .inl (nI (fig g w m (rwS (labF g) w f W H) 2)) ∧ FR_s M M1) := by
  refine Call.of kX5_figure.1 (Nat.le_of_ble_eq_true rfl) ?_
  refine G_iload_n dX5_figure_0 rfl rfl ?_
  refine G_swIn (tgt := 38) dX5_figure_1 (by decide) (by decide) rfl (by decide) ?_
  refine G_aload_n dX5_figure_38 rfl rfl ?_
  refine G_callVi (ν := uX5_stitches) (As := []) dX5_figure_39 nX5_96 kX5_stitches rfl rfl rfl rfl rfl (Nat.le_of_ble_eq_true rfl) (c_stitches hS hW hH hm hm5) ?_
  rintro _ M8 ⟨rfl, e9⟩
  subst M8
  refine G_iret dX5_figure_42 rfl rfl ?_
  exact ⟨rfl, fun _ _ _ _ => rfl⟩
theorem c_figure_3 {d w f W H m : Nat} {g : Nat → Nat} {M : Mem} (hS : SWx (labF g) w f W H m M) (hW : W ≤ 8) (hH : H ≤ 6) (hg : hC g (M 2)) (h9 : g9 g) (hm : 1 ≤ m) (hm5 : m ≤ 5) : Call l α D cA uX5_figure (d + 4) [.inr 17, .inr 1, .inl (nI 3)] M (fun q M1 => q = .inl (nI (fig g w m (rwS (labF g) w f W H) 3)) ∧ FR_s M M1) := by
  refine Call.of kX5_figure.1 (Nat.le_of_ble_eq_true rfl) ?_
  refine G_iload_n dX5_figure_0 rfl rfl ?_
  refine G_swOut (tgt := 43) dX5_figure_1 (by decide) (by decide) ?_
  refine G_aload_n dX5_figure_43 rfl rfl ?_
  refine G_aload_n dX5_figure_44 rfl rfl ?_
  refine G_callVi (ν := uX5_travel) (As := [.inr 1]) dX5_figure_45 nX5_99 kX5_travel rfl rfl rfl rfl rfl (Nat.le_of_ble_eq_true rfl) (c_travel hS hW hH hg h9) ?_
  rintro _ M8 ⟨rfl, hF8⟩
  refine G_iret dX5_figure_48 rfl rfl ?_
  exact ⟨rfl, hF8⟩
theorem c_figure {d k w f W H m : Nat} {g : Nat → Nat} {M : Mem} (hS : SWx (labF g) w f W H m M) (hW : W ≤ 8) (hH : H ≤ 6) (hg : hC g (M 2)) (h9 : g9 g) (hm : 1 ≤ m) (hm5 : m ≤ 5) (hk : k < 4) : Call l α D cA uX5_figure (d + 4) [.inr 17, .inr 1, .inl (nI k)] M (fun q M1 => q = .inl (nI (fig g w m (rwS (labF g) w f W H) k)) ∧ FR_s M M1) := by
  have h : k = 0 ∨ k = 1 ∨ k = 2 ∨ k = 3 := by omega
  rcases h with rfl | rfl | rfl | rfl
  · exact c_figure_0 hS hW hH hg h9 hm hm5
  · exact c_figure_1 hS hW hH hg h9 hm hm5
  · exact c_figure_2 hS hW hH hg h9 hm hm5
  · exact c_figure_3 hS hW hH hg h9 hm hm5
end P18
