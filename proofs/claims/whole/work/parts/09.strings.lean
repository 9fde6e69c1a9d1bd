/-! THE MACHINE LAYER, part e: String constants: i < 5 is the constant 1000 + i, its bytes 1010 + i -/
section GS
variable {l : Launch} {α : Nat → Nat} {D : va_G} {cA : Nat → ClassId} {μ ν : MI} {sc : Option (Nat × (Nat → Int32))} {d : Nat} {Q : AV → Mem → Prop} {pc : Nat} {L : List (Option AV)} {S : List AV} {M : Mem}
theorem G_ldcS {i idx : Nat} (hd : decode μ.2.1 pc = .ok (.ldc idx, 2)) (hμ : μ.1.cls = RX4) (hi : i < 5) (hx : sidx i = idx) (kk : G l α D cA μ sc d Q (pc + 2) L (.inr (1000 + i) :: S) M) : G l α D cA μ sc d Q pc L S M := by
  subst hx
  intro p e s m args below meth c A cells slots R Qf C H locs ls hP hS hL
  exact va_ldcS C.1.1 C.1.2.1 C.1.2.2.2.1 (by rw [hμ]; exact C.2.2.2.2.2.1.2.1 i hi) hd (kk p e s m args below meth c A cells slots R Qf C H locs ls hP hS hL)
theorem G_sVal {i : Nat} (hd : decode μ.2.1 pc = .ok (.getfield 9, 3)) (hμ : μ.1.cls = RJ0) (hi : i < 5) (kk : G l α D cA μ sc d Q (pc + 3) L (.inr (1010 + i) :: S) M) : G l α D cA μ sc d Q pc L (.inr (1000 + i) :: S) M := by
  intro p e s m args below meth c A cells slots R Qf C H locs ls hP hS hL
  exact vk_getf C.1.1 C.1.2.1 (C.2.2.2.2.2.1.1.1 i hi).2.2.1 hS C.1.2.2.2.1 (C.1.2.2.2.2 _ (by rw [hμ]; exact q_s9)) (fun _ h => h) hd (kk p e s m args below meth c A cells slots R Qf C H locs ls hP hS hL)
theorem G_sCod {i : Nat} (hd : decode μ.2.1 pc = .ok (.getfield 15, 3)) (hμ : μ.1.cls = RJ0) (hi : i < 5) (kk : G l α D cA μ sc d Q (pc + 3) L (.inl (nI 0) :: S) M) : G l α D cA μ sc d Q pc L (.inr (1000 + i) :: S) M := by
  intro p e s m args below meth c A cells slots R Qf C H locs ls hP hS hL
  exact vk_getf C.1.1 C.1.2.1 (C.2.2.2.2.2.1.1.1 i hi).2.1 hS C.1.2.2.2.1 (C.1.2.2.2.2 _ (by rw [hμ]; exact q_s15)) (fun _ h => h) hd (kk p e s m args below meth c A cells slots R Qf C H locs ls hP hS hL)
theorem G_sCmp (hd : decode μ.2.1 pc = .ok (.getstatic 38, 3)) (hμ : μ.1.cls = RJ0) (kk : G l α D cA μ sc d Q (pc + 3) L (.inl (nI 1) :: S) M) : G l α D cA μ sc d Q pc L S M := by
  intro p e s m args below meth c A cells slots R Qf C H locs ls hP hS hL
  exact va_gets C.1.1 C.1.2.1 C.2.2.2.2.2.1.2.2.1 hS C.1.2.2.2.1 (C.1.2.2.2.2 _ (by rw [hμ]; exact q_s38)) (fun _ h => h) hd (kk p e s m args below meth c A cells slots R Qf C H locs ls hP hS hL)
theorem G_sLen {i : Nat} {v : Int32} (hd : decode μ.2.1 pc = .ok (.arraylength, 1)) (hi : i < 5) (hv : nI (slen.getD i 0) = v) (kk : G l α D cA μ sc d Q (pc + 1) L (.inl v :: S) M) : G l α D cA μ sc d Q pc L (.inr (1010 + i) :: S) M := by
  intro p e s m args below meth c A cells slots R Qf C H locs ls hP hS hL
  exact va_tlen C.1.1 C.1.2.1 (C.2.2.2.2.2.1.1.1 i hi).2.2.2 hS hv hd (kk p e s m args below meth c A cells slots R Qf C H locs ls hP hS hL)
theorem G_sByt {i j : Nat} (hd : decode μ.2.1 pc = .ok (.baload, 1)) (hi : i < 5) (hj : j < slen.getD i 0) (kk : G l α D cA μ sc d Q (pc + 1) L (.inl ((sbyt.getD i []).getD j 0) :: S) M) : G l α D cA μ sc d Q pc L (.inl (nI j) :: .inr (1010 + i) :: S) M := by
  have hl : ∀ i, i < 5 → slen.getD i 0 ≤ 4 := by decide
  have h4 := hl i hi
  intro p e s m args below meth c A cells slots R Qf C H locs ls hP hS hL
  exact va_tb (i := nI j) C.1.1 C.1.2.1 (C.2.2.2.2.2.1.1.1 i hi).2.2.2 hS (vp_in_nI hj (by omega)) (v := .int ((sbyt.getD i []).getD j 0)) (by rw [nI_clamp (by omega)]) hd (kk p e s m args below meth c A cells slots R Qf C H locs ls hP hS hL)
/-- Preconditions.checkIndex(i, n, anything), in range -/
theorem m_pcheck (l : Launch) (d : Nat) (i n : Int32) (v : Value) (h0 : ¬ i < 0) (h1 : i < n) : Met l uJ3_checkIndex_8e157.1 (wsM uJ3_checkIndex_8e157) (rmD d) (va_Pc [.int i, .int n, v] (fun _ => True)) (fun _ st oc t => oc = .returned (some (.int i)) ∧ t.heap = st.heap) 0 0 (fun _ => False) := by
  refine Met.ofW (cc := cJ3_checkIndex_8e157) (maxL := 3) (ret := some .int) (by decide) rfl ?_
  intro p e s m args below meth c s₁ B hml hv
  obtain ⟨rfl, -⟩ := hv
  have hx := B.exec
  have hb := B.bytes
  have hr := B.returns
  have hlocks := B.notSynchronized
  rw [lg_entry_eq]
  generalize hls : (lg_sl ([.int i, .int n, v]) ++ List.replicate (3 - (lg_sl ([.int i, .int n, v])).length) Slot.unset).toArray = ls
  have g0 : ls[0]? = some (.val (.int i)) := by rw [← hls]; rfl
  have g1 : ls[1]? = some (.val (.int n)) := by rw [← hls]; rfl
  refine lv_iload_n hx hb dJ3_checkIndex_8e157_0 rfl g0 ?_
  refine lv_if_lt (tgt := 9) hx hb dJ3_checkIndex_8e157_1 (by decide) (fun h => absurd h h0) (fun _ => ?_)
  refine lv_iload_n hx hb dJ3_checkIndex_8e157_4 rfl g0 ?_
  refine lv_iload_n hx hb dJ3_checkIndex_8e157_5 rfl g1 ?_
  refine lv_icmp_lt (tgt := 16) hx hb dJ3_checkIndex_8e157_6 (by decide) (fun _ => ?_) (fun h => absurd h1 h)
  refine lv_iload_n hx hb dJ3_checkIndex_8e157_16 rfl g0 ?_
  exact W.iret hx hb hr (fun t ht _ => ⟨rfl, ht⟩) (fun q h => by cases h) dJ3_checkIndex_8e157_17
theorem G_chk {i n : Int32} (hd1 : decode μ.2.1 pc = .ok (.getstatic 1053, 3)) (hd2 : decode μ.2.1 (pc + 3) = .ok (.invokestatic 1059, 3)) (hμ : μ.1.cls = RJ0) (h0 : ¬ i < 0) (h1 : i < n) (hSl : S.length ≤ 8) (kk : G l α D cA μ sc (d + 1) Q (pc + 6) L (.inl i :: S) M) : G l α D cA μ sc (d + 1) Q pc L (.inl n :: .inl i :: S) M := by
  intro p e s m args below meth c A cells slots R Qf C H locs ls hP hS hL
  obtain ⟨⟨hx, hb, hml, hown, hts⟩, hK, hi, hA1, hA2, hF, ⟨r1, r2, r3, r4⟩, hsc, hfin⟩ := id C
  have key : ∀ v : Value, W p l e R s m args below meth c H locs cells slots Qf (F0 m (pc + 3) ls (v :: .int n :: .int i :: S.map (cv α))) := by
    intro v
    have hl : Cond.methodLink μ.1.cls 1059 uJ3_checkIndex_8e157.1 ∈ TG := by
      rw [hμ]
      rcases nJ0_1059 with h | ⟨host, h⟩
      · exact h
      · exact nJ0_1059g
    have run : va_Run p l e R s m args below meth c H locs cells slots 0 0 (F0 m (pc + 3) ls (v :: .int n :: .int i :: S.map (cv α))) (S.map (cv α)) ((fun _ st oc t => oc = .returned (some (.int i)) ∧ t.heap = st.heap : Array Value → State → Outcome → State → Prop) ([.int i, .int n, v] : List Value).toArray) (fun _ => False) :=
      va_runS (As := [.int i, .int n, v]) (rest := S.map (cv α)) (index := 1059) ⟨hx, hb, hml, hown, hts⟩ (m_pcheck l d i n v h0 h1) ⟨callB_of 3 hts (goodIn_wsM kJ3_checkIndex_8e157.1) rfl rfl rfl (hts _ kJ3_checkIndex_8e157.1.2.1) (hts _ hl) kJ3_checkIndex_8e157.1.2.2.1 ⟨r1, by show 8 + (3 + 11) + 36 * d ≤ R.locals; omega⟩, hts _ kJ3_checkIndex_8e157.2⟩ ⟨fun _ _ _ _ q => q, fun _ _ _ => ⟨rfl, trivial⟩⟩ rfl rfl hL.1 rfl (by rw [cv_sum]; show 2 * 0 + _ ≤ 8; omega) hd2 ⟨r3, r4⟩
    intro T hT X
    obtain ⟨v', st₀, t, T', L', hh0, X', hLL, e1, e2, ⟨hv0, hq⟩, stp⟩ := run T hT X
    cases hv0
    have eH : T'.heap = H := by rw [e1, hq, hh0]
    obtain ⟨t2, a1, b1⟩ := kk p e s m args below meth c A cells slots R Qf C H (locs ++ L') ls hP ⟨hS.1, hS.2.1, fun q hq => by
      rcases List.mem_append.mp hq with h | h
      · exact hS.2.2 q h
      · exact (hLL q h).elim⟩ hL T' eH X'
    exact ⟨t2, stp t2 a1, b1⟩
  rcases hF.2.2.2.1 with hZ | ⟨t, hZ⟩
  · exact va_gets hx hb hZ hS hown (hts _ (by rw [hμ]; exact q_s1053)) (fun _ h => h) hd1 (key _)
  · exact va_gets hx hb hZ hS hown (hts _ (by rw [hμ]; exact q_s1053)) (fun _ h => h) hd1 (key _)
set_option maxHeartbeats 1000000 in
/-- a call on a String constant -/
theorem G_callK {As st : List AV} {i idx : Nat} {ty : FieldType} {Q2 : AV → Mem → Prop} (hd : decode μ.2.1 pc = .ok (.invokevirtual idx, 3)) (hl : Cond.methodLink μ.1.cls idx ν.1 ∈ TG) (hv : MV ν) (hi5 : i < 5) (hc : ν.1.cls = RJ0) (hr : ν.2.2.2.1 = some ty) (hn : As.length = ν.2.2.2.2) (hst : st = As.reverse ++ .inr (1000 + i) :: S) (hSl : S.length ≤ 8) (hk : Call l α D cA ν d (.inr (1000 + i) :: As) M Q2)
    (kk : ∀ (r : AV) (M' : Mem), Q2 r M' → G l α D cA μ sc (d + 1) Q (pc + 3) L (r :: S) M') : G l α D cA μ sc (d + 1) Q pc L st M := by
  subst hst
  intro p e s m args below meth c A cells slots R Qf C H locs ls hP hS hL
  obtain ⟨⟨hx, hb, hml, hown, hts⟩, hK, hi, hA1, hA2, hF, ⟨r1, r2, r3, r4⟩, hsc, hfin⟩ := id C
  have hFA : ∀ q, AA α H.size q → A q := fun q h => by
    rcases h with ⟨i, h1, rfl⟩ | h
    · exact hA1 i h1
    · exact hA2 q (Nat.le_trans hS.1 h)
  have run : va_Run p l e R s m args below meth c H locs cells slots 0 0 (F0 m pc ls ((As.reverse ++ .inr (1000 + i) :: S).map (cv α))) (S.map (cv α)) (QcM α D cA ν.2.2.2.1 Q2 (AA α H.size) ((.inr (1000 + i) :: As).map (cv α)).toArray) (AA α H.size) := by
    have hpre : ∀ U : State, U.heap = H → s.WarmedH U.vm → PcM α D cA (.inr (1000 + i) :: As) M H.size ((.inr (1000 + i) :: As).map (cv α)).toArray U := fun U hU hW => ⟨rfl, by rw [hU], by rw [hU]; exact hP, va_K.moved hW.alike hK, by rw [hU]; exact ((hF.kept hS.2.1).narrow hFA).warm hW, hi⟩
    have hblind : FrameBlind (PcM α D cA (.inr (1000 + i) :: As) M H.size) := fun a U g mk q => by
      obtain ⟨q1, q2, q3, q4, q5, q6⟩ := q
      exact ⟨q1, q2, q3, va_K.moved (u := U) (U := U.calling g mk a) (Vm.Alike.refl U.vm) q4, SF.same (s := U) (U := U.calling g mk a) rfl q5, q6⟩
    have hrec := vk_recv hF.1 hi5 hS
    have hR : (rmD d).frames + 1 ≤ R.frames ∧ 8 + (ν.2.2.1 + 11) + (rmD d).locals ≤ R.locals := ⟨r1, by have := hv.1.2.2.2.2; show 8 + (ν.2.2.1 + 11) + 36 * d ≤ R.locals; omega⟩
    have hstk : (F0 m pc ls ((As.reverse ++ .inr (1000 + i) :: S).map (cv α))).stack = (As.map (cv α)).reverse ++ .ref (α (1000 + i)) :: S.map (cv α) := by simp [cv]
    exact va_runV (As := As.map (cv α)) (rest := S.map (cv α)) (b := α (1000 + i)) (C := RJ0) (index := idx) ⟨hx, hb, hml, hown, hts⟩ (hk H.size) ⟨callB_of ν.2.2.2.2 hts (goodIn_wsM hv.1) rfl rfl rfl (hts _ hv.1.2.1) (hts _ hl) hv.1.2.2.1 hR, hts _ hv.2.1, by rw [← hc]; exact hts _ hv.2.2⟩ ⟨hblind, hrec, hpre⟩ rfl (by simpa using hn) hL.1 hstk (by rw [cv_sum]; show 2 * 0 + _ ≤ 8; omega) hd ⟨r3, r4⟩
  intro T hT X
  obtain ⟨v, st₀, t, T', L', h0, X', hLL, e1, e2, ⟨⟨r, M', hv0, hq, hP'⟩, hz, hkeep⟩, stp⟩ := run T hT X
  cases hv0
  rw [h0] at hz hkeep
  have hS' : va_S A s.heap T'.heap (locs ++ L') := ⟨Nat.le_trans hS.1 (by rw [e1]; exact hz), fun q h1 h2 => by rw [e1, hkeep q (Nat.lt_of_lt_of_le h1 hS.1) (fun z => h2 (hFA q z))]; exact hS.2.1 q h1 h2, fun q hq => by
    rcases List.mem_append.mp hq with h | h
    · exact hS.2.2 q h
    · exact hFA _ (hLL q h)⟩
  obtain ⟨t2, a1, b1⟩ := kk r M' hq p e s m args below meth c A cells slots R Qf C T'.heap (locs ++ L') ls (by rw [e1]; exact hP') hS' hL T' rfl X'
  refine ⟨t2, stp t2 ?_, b1⟩
  rw [hr]
  exact a1
end GS
