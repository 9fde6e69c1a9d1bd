/-! THE LAW'S LOOP: the class against the reference, call by call -/
section P46
variable {l : Launch} {α : Nat → Nat} {D : va_G} {cA : Nat → ClassId}
abbrev uL : MI := (⟨RL, "law", "([I)Z"⟩, cL_law, 4, some .boolean, 1)
def QL : AV → Mem → Prop := fun r _ => r = .inl 1
theorem XR_50 {s : AS} {M M1 : Mem} (h : XR s M) (hF : ∀ q, q < 50 → M1 q = M q) : XR s M1 := by
  obtain ⟨h0, h1, ⟨h2, h3⟩, ⟨nx, h4⟩, h5, h6⟩ := h
  exact ⟨h0, TX_3 h1 (hF 4 (by decide)) (by rw [hF 3 (by decide)]), ⟨by rw [hF 2 (by decide)]; exact h2, MPg_k h3 (fun q _ _ => hF q (by omega))⟩, ⟨nx, HX_k h4 (hF 38 (by decide)) (fun q _ _ => hF q (by omega))⟩, SN_k h5 (fun q _ _ => hF q (by omega)), OB_k h6 (fun q _ _ => hF q (by omega))⟩
theorem YR_50 {s : AS} {M M1 : Mem} (h : YR s M) (hF : ∀ q, 50 ≤ q → M1 q = M q) : YR s M1 := by
  unfold YR PAm KEm FAm TBm at *
  rw [hF 50 (by decide), hF 51 (by decide), hF 53 (by decide), hF 54 (by decide), hF 55 (by decide), hF 56 (by decide), hF 57 (by decide)]
  exact h
theorem lw_fit {i n : Nat} (hi : i < 2 ^ 30) (hn : n < 2 ^ 30) (h : ¬ nI n - nI 6 < nI i) : i + 6 ≤ n := by
  by_cases h6 : 6 ≤ n
  · have e : nI n - nI 6 = nI (n - 6) := by
      have a := nI_add (n - 6) 6
      rw [show n - 6 + 6 = n by omega] at a
      rw [← a]
      grind
    rw [e] at h
    by_cases hh : n - 6 < i
    · exact absurd (nI_lt hh (by omega)) h
    · omega
  · exfalso
    apply h
    have hp := nI_pos' (show i < 2 ^ 31 by omega)
    have hneg : nI n - nI 6 < 0 := by
      rcases (show n = 0 ∨ n = 1 ∨ n = 2 ∨ n = 3 ∨ n = 4 ∨ n = 5 by omega) with rfl | rfl | rfl | rfl | rfl | rfl <;> decide
    rw [Int32.lt_iff_toInt_lt] at hneg ⊢
    rw [Int32.le_iff_toInt_le] at hp
    omega
theorem cases_20 {w : Int32} : w = nI 0 ∨ w = nI 1 ∨ w = nI 2 ∨ w = nI 3 ∨ w = nI 4 ∨ w = nI 5 ∨ w = nI 6 ∨ w = nI 7 ∨ w = nI 8 ∨ w = nI 9 ∨ w = nI 10 ∨ w = nI 11 ∨ w = nI 12 ∨ w = nI 13 ∨ w = nI 14 ∨ w = nI 15 ∨ w = nI 16 ∨ w = nI 17 ∨ w = nI 18 ∨ w = nI 19 ∨ w = nI 20 ∨ ¬ inI 0 20 w := by
  by_cases h : inI 0 20 w
  · obtain ⟨j, -, hj, rfl⟩ := inI_nI h (by decide) (by decide)
    rcases (show j = 0 ∨ j = 1 ∨ j = 2 ∨ j = 3 ∨ j = 4 ∨ j = 5 ∨ j = 6 ∨ j = 7 ∨ j = 8 ∨ j = 9 ∨ j = 10 ∨ j = 11 ∨ j = 12 ∨ j = 13 ∨ j = 14 ∨ j = 15 ∨ j = 16 ∨ j = 17 ∨ j = 18 ∨ j = 19 ∨ j = 20 by omega) with rfl | rfl | rfl | rfl | rfl | rfl | rfl | rfl | rfl | rfl | rfl | rfl | rfl | rfl | rfl | rfl | rfl | rfl | rfl | rfl | rfl <;> simp
  · simp [h]
theorem lw_0 {n i : Nat} {xs : Nat → Int32} {s : AS} {M : Mem} (hn : n ≤ 3072) (hi : i + 6 ≤ n) (hX : XR s M) (hY : YR s M) (back : ∀ (s1 : AS) (M1 : Mem), XR s1 M1 → YR s1 M1 → G l α D cA uL (some (n, xs)) 11 QL 765 [some (.inr 999), some (.inr 0), some (.inr 50), some (.inl (nI i))] [] M1) : G l α D cA uL (some (n, xs)) 11 QL 132 [some (.inr 999), some (.inr 0), some (.inr 50), some (.inl (nI i))] [] M := by
  refine G_aload_n dL_law_132 rfl rfl ?_
  refine G_aload_n dL_law_133 rfl rfl ?_
  refine G_iload_n dL_law_134 rfl rfl ?_
  refine G_iconst (v := nI 1) dL_law_135 (by decide) ?_
  refine G_iadd (v := nI (i + 1)) dL_law_136 (nI_add _ _) ?_
  refine G_sld (n := n) (k := i + 1) (v := xs (i + 1)) (xs := xs) dL_law_137 rfl (vp_in_nI (by omega) (by omega)) (nI_clamp (by omega)) rfl ?_
  refine G_callVi (ν := uX9_type) (As := [.inl (xs (i + 1))]) dL_law_138 nL_13 kX9_type rfl rfl rfl rfl rfl (Nat.le_of_ble_eq_true rfl) (x_type hX) ?_
  rintro _ Ma ⟨rfl, hXa, hFa⟩
  have hYa := YR_50 hY hFa
  refine G_aload_n dL_law_141 rfl rfl ?_
  refine G_aload_n dL_law_142 rfl rfl ?_
  refine G_iload_n dL_law_143 rfl rfl ?_
  refine G_iconst (v := nI 1) dL_law_144 (by decide) ?_
  refine G_iadd (v := nI (i + 1)) dL_law_145 (nI_add _ _) ?_
  refine G_sld (n := n) (k := i + 1) (v := xs (i + 1)) (xs := xs) dL_law_146 rfl (vp_in_nI (by omega) (by omega)) (nI_clamp (by omega)) rfl ?_
  refine G_callVi (ν := uX10_type) (As := [.inl (xs (i + 1))]) dL_law_147 nL_17 kX10_type rfl rfl rfl rfl rfl (Nat.le_of_ble_eq_true rfl) (y_type hYa) ?_
  rintro _ Mb ⟨rfl, hYb, hFb⟩
  have hXb := XR_50 hXa hFb
  exact G_icmp_eq (tgt := 765) dL_law_150 (by decide) (fun _ => back _ Mb hXb hYb) (fun h => absurd rfl h)
theorem lw_1 {n i : Nat} {xs : Nat → Int32} {s : AS} {M : Mem} (hn : n ≤ 3072) (hi : i + 6 ≤ n) (hX : XR s M) (hY : YR s M) (back : ∀ (s1 : AS) (M1 : Mem), XR s1 M1 → YR s1 M1 → G l α D cA uL (some (n, xs)) 11 QL 765 [some (.inr 999), some (.inr 0), some (.inr 50), some (.inl (nI i))] [] M1) : G l α D cA uL (some (n, xs)) 11 QL 155 [some (.inr 999), some (.inr 0), some (.inr 50), some (.inl (nI i))] [] M := by
  refine G_aload_n dL_law_155 rfl rfl ?_
  refine G_callVi (ν := uX9_clear) (As := []) dL_law_156 nL_18 kX9_clear rfl rfl rfl rfl rfl (Nat.le_of_ble_eq_true rfl) (x_clear hX) ?_
  rintro _ Ma ⟨rfl, hXa, hFa⟩
  have hYa := YR_50 hY hFa
  refine G_aload_n dL_law_159 rfl rfl ?_
  refine G_callVi (ν := uX10_clear) (As := []) dL_law_160 nL_22 kX10_clear rfl rfl rfl rfl rfl (Nat.le_of_ble_eq_true rfl) (y_clear hYa) ?_
  rintro _ Mb ⟨rfl, hYb, hFb⟩
  have hXb := XR_50 hXa hFb
  exact G_icmp_eq (tgt := 765) dL_law_163 (by decide) (fun _ => back _ Mb hXb hYb) (fun h => absurd rfl h)
theorem lw_2 {n i : Nat} {xs : Nat → Int32} {s : AS} {M : Mem} (hn : n ≤ 3072) (hi : i + 6 ≤ n) (hX : XR s M) (hY : YR s M) (back : ∀ (s1 : AS) (M1 : Mem), XR s1 M1 → YR s1 M1 → G l α D cA uL (some (n, xs)) 11 QL 765 [some (.inr 999), some (.inr 0), some (.inr 50), some (.inl (nI i))] [] M1) : G l α D cA uL (some (n, xs)) 11 QL 168 [some (.inr 999), some (.inr 0), some (.inr 50), some (.inl (nI i))] [] M := by
  refine G_aload_n dL_law_168 rfl rfl ?_
  refine G_callVi (ν := uX9_tells) (As := []) dL_law_169 nL_23 kX9_tells rfl rfl rfl rfl rfl (Nat.le_of_ble_eq_true rfl) (x_tells hX) ?_
  rintro _ Ma ⟨rfl, hXa, hFa⟩
  have hYa := YR_50 hY hFa
  refine G_aload_n dL_law_172 rfl rfl ?_
  refine G_callVi (ν := uX10_tells) (As := []) dL_law_173 nL_26 kX10_tells rfl rfl rfl rfl rfl (Nat.le_of_ble_eq_true rfl) (y_tells hYa) ?_
  rintro _ Mb ⟨rfl, hYb, hFb⟩
  have hXb := XR_50 hXa hFb
  exact G_icmp_eq (tgt := 765) dL_law_176 (by decide) (fun _ => back _ Mb hXb hYb) (fun h => absurd rfl h)
theorem lw_3 {n i : Nat} {xs : Nat → Int32} {s : AS} {M : Mem} (hn : n ≤ 3072) (hi : i + 6 ≤ n) (hX : XR s M) (hY : YR s M) (back : ∀ (s1 : AS) (M1 : Mem), XR s1 M1 → YR s1 M1 → G l α D cA uL (some (n, xs)) 11 QL 765 [some (.inr 999), some (.inr 0), some (.inr 50), some (.inl (nI i))] [] M1) : G l α D cA uL (some (n, xs)) 11 QL 181 [some (.inr 999), some (.inr 0), some (.inr 50), some (.inl (nI i))] [] M := by
  refine G_aload_n dL_law_181 rfl rfl ?_
  refine G_aload_n dL_law_182 rfl rfl ?_
  refine G_iload_n dL_law_183 rfl rfl ?_
  refine G_iconst (v := nI 1) dL_law_184 (by decide) ?_
  refine G_iadd (v := nI (i + 1)) dL_law_185 (nI_add _ _) ?_
  refine G_sld (n := n) (k := i + 1) (v := xs (i + 1)) (xs := xs) dL_law_186 rfl (vp_in_nI (by omega) (by omega)) (nI_clamp (by omega)) rfl ?_
  refine G_aload_n dL_law_187 rfl rfl ?_
  refine G_iload_n dL_law_188 rfl rfl ?_
  refine G_iconst (v := nI 2) dL_law_189 (by decide) ?_
  refine G_iadd (v := nI (i + 2)) dL_law_190 (nI_add _ _) ?_
  refine G_sld (n := n) (k := i + 2) (v := xs (i + 2)) (xs := xs) dL_law_191 rfl (vp_in_nI (by omega) (by omega)) (nI_clamp (by omega)) rfl ?_
  refine G_aload_n dL_law_192 rfl rfl ?_
  refine G_iload_n dL_law_193 rfl rfl ?_
  refine G_iconst (v := nI 3) dL_law_194 (by decide) ?_
  refine G_iadd (v := nI (i + 3)) dL_law_195 (nI_add _ _) ?_
  refine G_sld (n := n) (k := i + 3) (v := xs (i + 3)) (xs := xs) dL_law_196 rfl (vp_in_nI (by omega) (by omega)) (nI_clamp (by omega)) rfl ?_
  refine G_aload_n dL_law_197 rfl rfl ?_
  refine G_iload_n dL_law_198 rfl rfl ?_
  refine G_iconst (v := nI 4) dL_law_199 (by decide) ?_
  refine G_iadd (v := nI (i + 4)) dL_law_200 (nI_add _ _) ?_
  refine G_sld (n := n) (k := i + 4) (v := xs (i + 4)) (xs := xs) dL_law_201 rfl (vp_in_nI (by omega) (by omega)) (nI_clamp (by omega)) rfl ?_
  refine G_aload_n dL_law_202 rfl rfl ?_
  refine G_iload_n dL_law_203 rfl rfl ?_
  refine G_iconst (v := nI 5) dL_law_204 (by decide) ?_
  refine G_iadd (v := nI (i + 5)) dL_law_205 (nI_add _ _) ?_
  refine G_sld (n := n) (k := i + 5) (v := xs (i + 5)) (xs := xs) dL_law_206 rfl (vp_in_nI (by omega) (by omega)) (nI_clamp (by omega)) rfl ?_
  refine G_callVi (ν := uX9_paints) (As := [.inl (xs (i + 1)), .inl (xs (i + 2)), .inl (xs (i + 3)), .inl (xs (i + 4)), .inl (xs (i + 5))]) dL_law_207 nL_27 kX9_paints rfl rfl rfl rfl rfl (Nat.le_of_ble_eq_true rfl) (x_paints hX) ?_
  rintro _ Ma ⟨rfl, hXa, hFa⟩
  have hYa := YR_50 hY hFa
  refine G_aload_n dL_law_210 rfl rfl ?_
  refine G_aload_n dL_law_211 rfl rfl ?_
  refine G_iload_n dL_law_212 rfl rfl ?_
  refine G_iconst (v := nI 1) dL_law_213 (by decide) ?_
  refine G_iadd (v := nI (i + 1)) dL_law_214 (nI_add _ _) ?_
  refine G_sld (n := n) (k := i + 1) (v := xs (i + 1)) (xs := xs) dL_law_215 rfl (vp_in_nI (by omega) (by omega)) (nI_clamp (by omega)) rfl ?_
  refine G_aload_n dL_law_216 rfl rfl ?_
  refine G_iload_n dL_law_217 rfl rfl ?_
  refine G_iconst (v := nI 2) dL_law_218 (by decide) ?_
  refine G_iadd (v := nI (i + 2)) dL_law_219 (nI_add _ _) ?_
  refine G_sld (n := n) (k := i + 2) (v := xs (i + 2)) (xs := xs) dL_law_220 rfl (vp_in_nI (by omega) (by omega)) (nI_clamp (by omega)) rfl ?_
  refine G_aload_n dL_law_221 rfl rfl ?_
  refine G_iload_n dL_law_222 rfl rfl ?_
  refine G_iconst (v := nI 3) dL_law_223 (by decide) ?_
  refine G_iadd (v := nI (i + 3)) dL_law_224 (nI_add _ _) ?_
  refine G_sld (n := n) (k := i + 3) (v := xs (i + 3)) (xs := xs) dL_law_225 rfl (vp_in_nI (by omega) (by omega)) (nI_clamp (by omega)) rfl ?_
  refine G_aload_n dL_law_226 rfl rfl ?_
  refine G_iload_n dL_law_227 rfl rfl ?_
  refine G_iconst (v := nI 4) dL_law_228 (by decide) ?_
  refine G_iadd (v := nI (i + 4)) dL_law_229 (nI_add _ _) ?_
  refine G_sld (n := n) (k := i + 4) (v := xs (i + 4)) (xs := xs) dL_law_230 rfl (vp_in_nI (by omega) (by omega)) (nI_clamp (by omega)) rfl ?_
  refine G_aload_n dL_law_231 rfl rfl ?_
  refine G_iload_n dL_law_232 rfl rfl ?_
  refine G_iconst (v := nI 5) dL_law_233 (by decide) ?_
  refine G_iadd (v := nI (i + 5)) dL_law_234 (nI_add _ _) ?_
  refine G_sld (n := n) (k := i + 5) (v := xs (i + 5)) (xs := xs) dL_law_235 rfl (vp_in_nI (by omega) (by omega)) (nI_clamp (by omega)) rfl ?_
  refine G_callVi (ν := uX10_paints) (As := [.inl (xs (i + 1)), .inl (xs (i + 2)), .inl (xs (i + 3)), .inl (xs (i + 4)), .inl (xs (i + 5))]) dL_law_236 nL_31 kX10_paints rfl rfl rfl rfl rfl (Nat.le_of_ble_eq_true rfl) (y_paints hYa) ?_
  rintro _ Mb ⟨rfl, hYb, hFb⟩
  have hXb := XR_50 hXa hFb
  exact G_icmp_eq (tgt := 765) dL_law_239 (by decide) (fun _ => back _ Mb hXb hYb) (fun h => absurd rfl h)
theorem lw_4 {n i : Nat} {xs : Nat → Int32} {s : AS} {M : Mem} (hn : n ≤ 3072) (hi : i + 6 ≤ n) (hX : XR s M) (hY : YR s M) (back : ∀ (s1 : AS) (M1 : Mem), XR s1 M1 → YR s1 M1 → G l α D cA uL (some (n, xs)) 11 QL 765 [some (.inr 999), some (.inr 0), some (.inr 50), some (.inl (nI i))] [] M1) : G l α D cA uL (some (n, xs)) 11 QL 244 [some (.inr 999), some (.inr 0), some (.inr 50), some (.inl (nI i))] [] M := by
  refine G_aload_n dL_law_244 rfl rfl ?_
  refine G_aload_n dL_law_245 rfl rfl ?_
  refine G_iload_n dL_law_246 rfl rfl ?_
  refine G_iconst (v := nI 1) dL_law_247 (by decide) ?_
  refine G_iadd (v := nI (i + 1)) dL_law_248 (nI_add _ _) ?_
  refine G_sld (n := n) (k := i + 1) (v := xs (i + 1)) (xs := xs) dL_law_249 rfl (vp_in_nI (by omega) (by omega)) (nI_clamp (by omega)) rfl ?_
  refine G_aload_n dL_law_250 rfl rfl ?_
  refine G_iload_n dL_law_251 rfl rfl ?_
  refine G_iconst (v := nI 2) dL_law_252 (by decide) ?_
  refine G_iadd (v := nI (i + 2)) dL_law_253 (nI_add _ _) ?_
  refine G_sld (n := n) (k := i + 2) (v := xs (i + 2)) (xs := xs) dL_law_254 rfl (vp_in_nI (by omega) (by omega)) (nI_clamp (by omega)) rfl ?_
  refine G_callVi (ν := uX9_ways) (As := [.inl (xs (i + 1)), .inl (xs (i + 2))]) dL_law_255 nL_32 kX9_ways rfl rfl rfl rfl rfl (Nat.le_of_ble_eq_true rfl) (x_ways hX) ?_
  rintro _ Ma ⟨rfl, hXa, hFa⟩
  have hYa := YR_50 hY hFa
  refine G_aload_n dL_law_258 rfl rfl ?_
  refine G_aload_n dL_law_259 rfl rfl ?_
  refine G_iload_n dL_law_260 rfl rfl ?_
  refine G_iconst (v := nI 1) dL_law_261 (by decide) ?_
  refine G_iadd (v := nI (i + 1)) dL_law_262 (nI_add _ _) ?_
  refine G_sld (n := n) (k := i + 1) (v := xs (i + 1)) (xs := xs) dL_law_263 rfl (vp_in_nI (by omega) (by omega)) (nI_clamp (by omega)) rfl ?_
  refine G_aload_n dL_law_264 rfl rfl ?_
  refine G_iload_n dL_law_265 rfl rfl ?_
  refine G_iconst (v := nI 2) dL_law_266 (by decide) ?_
  refine G_iadd (v := nI (i + 2)) dL_law_267 (nI_add _ _) ?_
  refine G_sld (n := n) (k := i + 2) (v := xs (i + 2)) (xs := xs) dL_law_268 rfl (vp_in_nI (by omega) (by omega)) (nI_clamp (by omega)) rfl ?_
  refine G_callVi (ν := uX10_ways) (As := [.inl (xs (i + 1)), .inl (xs (i + 2))]) dL_law_269 nL_36 kX10_ways rfl rfl rfl rfl rfl (Nat.le_of_ble_eq_true rfl) (y_ways hYa) ?_
  rintro _ Mb ⟨rfl, hYb, hFb⟩
  have hXb := XR_50 hXa hFb
  exact G_icmp_eq (tgt := 765) dL_law_272 (by decide) (fun _ => back _ Mb hXb hYb) (fun h => absurd rfl h)
theorem lw_5 {n i : Nat} {xs : Nat → Int32} {s : AS} {M : Mem} (hn : n ≤ 3072) (hi : i + 6 ≤ n) (hX : XR s M) (hY : YR s M) (back : ∀ (s1 : AS) (M1 : Mem), XR s1 M1 → YR s1 M1 → G l α D cA uL (some (n, xs)) 11 QL 765 [some (.inr 999), some (.inr 0), some (.inr 50), some (.inl (nI i))] [] M1) : G l α D cA uL (some (n, xs)) 11 QL 277 [some (.inr 999), some (.inr 0), some (.inr 50), some (.inl (nI i))] [] M := by
  refine G_aload_n dL_law_277 rfl rfl ?_
  refine G_aload_n dL_law_278 rfl rfl ?_
  refine G_iload_n dL_law_279 rfl rfl ?_
  refine G_iconst (v := nI 1) dL_law_280 (by decide) ?_
  refine G_iadd (v := nI (i + 1)) dL_law_281 (nI_add _ _) ?_
  refine G_sld (n := n) (k := i + 1) (v := xs (i + 1)) (xs := xs) dL_law_282 rfl (vp_in_nI (by omega) (by omega)) (nI_clamp (by omega)) rfl ?_
  refine G_aload_n dL_law_283 rfl rfl ?_
  refine G_iload_n dL_law_284 rfl rfl ?_
  refine G_iconst (v := nI 2) dL_law_285 (by decide) ?_
  refine G_iadd (v := nI (i + 2)) dL_law_286 (nI_add _ _) ?_
  refine G_sld (n := n) (k := i + 2) (v := xs (i + 2)) (xs := xs) dL_law_287 rfl (vp_in_nI (by omega) (by omega)) (nI_clamp (by omega)) rfl ?_
  refine G_callVi (ν := uX9_ranks) (As := [.inl (xs (i + 1)), .inl (xs (i + 2))]) dL_law_288 nL_37 kX9_ranks rfl rfl rfl rfl rfl (Nat.le_of_ble_eq_true rfl) (x_ranks hX) ?_
  rintro _ Ma ⟨rfl, hXa, hFa⟩
  have hYa := YR_50 hY hFa
  refine G_aload_n dL_law_291 rfl rfl ?_
  refine G_aload_n dL_law_292 rfl rfl ?_
  refine G_iload_n dL_law_293 rfl rfl ?_
  refine G_iconst (v := nI 1) dL_law_294 (by decide) ?_
  refine G_iadd (v := nI (i + 1)) dL_law_295 (nI_add _ _) ?_
  refine G_sld (n := n) (k := i + 1) (v := xs (i + 1)) (xs := xs) dL_law_296 rfl (vp_in_nI (by omega) (by omega)) (nI_clamp (by omega)) rfl ?_
  refine G_aload_n dL_law_297 rfl rfl ?_
  refine G_iload_n dL_law_298 rfl rfl ?_
  refine G_iconst (v := nI 2) dL_law_299 (by decide) ?_
  refine G_iadd (v := nI (i + 2)) dL_law_300 (nI_add _ _) ?_
  refine G_sld (n := n) (k := i + 2) (v := xs (i + 2)) (xs := xs) dL_law_301 rfl (vp_in_nI (by omega) (by omega)) (nI_clamp (by omega)) rfl ?_
  refine G_callVi (ν := uX10_ranks) (As := [.inl (xs (i + 1)), .inl (xs (i + 2))]) dL_law_302 nL_40 kX10_ranks rfl rfl rfl rfl rfl (Nat.le_of_ble_eq_true rfl) (y_ranks hYa) ?_
  rintro _ Mb ⟨rfl, hYb, hFb⟩
  have hXb := XR_50 hXa hFb
  exact G_icmp_eq (tgt := 765) dL_law_305 (by decide) (fun _ => back _ Mb hXb hYb) (fun h => absurd rfl h)
theorem lw_6 {n i : Nat} {xs : Nat → Int32} {s : AS} {M : Mem} (hn : n ≤ 3072) (hi : i + 6 ≤ n) (hX : XR s M) (hY : YR s M) (back : ∀ (s1 : AS) (M1 : Mem), XR s1 M1 → YR s1 M1 → G l α D cA uL (some (n, xs)) 11 QL 765 [some (.inr 999), some (.inr 0), some (.inr 50), some (.inl (nI i))] [] M1) : G l α D cA uL (some (n, xs)) 11 QL 310 [some (.inr 999), some (.inr 0), some (.inr 50), some (.inl (nI i))] [] M := by
  refine G_aload_n dL_law_310 rfl rfl ?_
  refine G_aload_n dL_law_311 rfl rfl ?_
  refine G_iload_n dL_law_312 rfl rfl ?_
  refine G_iconst (v := nI 1) dL_law_313 (by decide) ?_
  refine G_iadd (v := nI (i + 1)) dL_law_314 (nI_add _ _) ?_
  refine G_sld (n := n) (k := i + 1) (v := xs (i + 1)) (xs := xs) dL_law_315 rfl (vp_in_nI (by omega) (by omega)) (nI_clamp (by omega)) rfl ?_
  refine G_callVi (ν := uX9_mosts) (As := [.inl (xs (i + 1))]) dL_law_316 nL_41 kX9_mosts rfl rfl rfl rfl rfl (Nat.le_of_ble_eq_true rfl) (x_mosts hX) ?_
  rintro _ Ma ⟨rfl, hXa, hFa⟩
  have hYa := YR_50 hY hFa
  refine G_aload_n dL_law_319 rfl rfl ?_
  refine G_aload_n dL_law_320 rfl rfl ?_
  refine G_iload_n dL_law_321 rfl rfl ?_
  refine G_iconst (v := nI 1) dL_law_322 (by decide) ?_
  refine G_iadd (v := nI (i + 1)) dL_law_323 (nI_add _ _) ?_
  refine G_sld (n := n) (k := i + 1) (v := xs (i + 1)) (xs := xs) dL_law_324 rfl (vp_in_nI (by omega) (by omega)) (nI_clamp (by omega)) rfl ?_
  refine G_callVi (ν := uX10_mosts) (As := [.inl (xs (i + 1))]) dL_law_325 nL_44 kX10_mosts rfl rfl rfl rfl rfl (Nat.le_of_ble_eq_true rfl) (y_mosts hYa) ?_
  rintro _ Mb ⟨rfl, hYb, hFb⟩
  have hXb := XR_50 hXa hFb
  exact G_icmp_eq (tgt := 765) dL_law_328 (by decide) (fun _ => back _ Mb hXb hYb) (fun h => absurd rfl h)
theorem lw_7 {n i : Nat} {xs : Nat → Int32} {s : AS} {M : Mem} (hn : n ≤ 3072) (hi : i + 6 ≤ n) (hX : XR s M) (hY : YR s M) (back : ∀ (s1 : AS) (M1 : Mem), XR s1 M1 → YR s1 M1 → G l α D cA uL (some (n, xs)) 11 QL 765 [some (.inr 999), some (.inr 0), some (.inr 50), some (.inl (nI i))] [] M1) : G l α D cA uL (some (n, xs)) 11 QL 333 [some (.inr 999), some (.inr 0), some (.inr 50), some (.inl (nI i))] [] M := by
  refine G_aload_n dL_law_333 rfl rfl ?_
  refine G_aload_n dL_law_334 rfl rfl ?_
  refine G_iload_n dL_law_335 rfl rfl ?_
  refine G_iconst (v := nI 1) dL_law_336 (by decide) ?_
  refine G_iadd (v := nI (i + 1)) dL_law_337 (nI_add _ _) ?_
  refine G_sld (n := n) (k := i + 1) (v := xs (i + 1)) (xs := xs) dL_law_338 rfl (vp_in_nI (by omega) (by omega)) (nI_clamp (by omega)) rfl ?_
  refine G_callVi (ν := uX9_pulls) (As := [.inl (xs (i + 1))]) dL_law_339 nL_45 kX9_pulls rfl rfl rfl rfl rfl (Nat.le_of_ble_eq_true rfl) (x_pulls hX) ?_
  rintro _ Ma ⟨rfl, hXa, hFa⟩
  have hYa := YR_50 hY hFa
  refine G_aload_n dL_law_342 rfl rfl ?_
  refine G_aload_n dL_law_343 rfl rfl ?_
  refine G_iload_n dL_law_344 rfl rfl ?_
  refine G_iconst (v := nI 1) dL_law_345 (by decide) ?_
  refine G_iadd (v := nI (i + 1)) dL_law_346 (nI_add _ _) ?_
  refine G_sld (n := n) (k := i + 1) (v := xs (i + 1)) (xs := xs) dL_law_347 rfl (vp_in_nI (by omega) (by omega)) (nI_clamp (by omega)) rfl ?_
  refine G_callVi (ν := uX10_pulls) (As := [.inl (xs (i + 1))]) dL_law_348 nL_48 kX10_pulls rfl rfl rfl rfl rfl (Nat.le_of_ble_eq_true rfl) (y_pulls hYa) ?_
  rintro _ Mb ⟨rfl, hYb, hFb⟩
  have hXb := XR_50 hXa hFb
  exact G_icmp_eq (tgt := 765) dL_law_351 (by decide) (fun _ => back _ Mb hXb hYb) (fun h => absurd rfl h)
theorem lw_8 {n i : Nat} {xs : Nat → Int32} {s : AS} {M : Mem} (hn : n ≤ 3072) (hi : i + 6 ≤ n) (hX : XR s M) (hY : YR s M) (back : ∀ (s1 : AS) (M1 : Mem), XR s1 M1 → YR s1 M1 → G l α D cA uL (some (n, xs)) 11 QL 765 [some (.inr 999), some (.inr 0), some (.inr 50), some (.inl (nI i))] [] M1) : G l α D cA uL (some (n, xs)) 11 QL 356 [some (.inr 999), some (.inr 0), some (.inr 50), some (.inl (nI i))] [] M := by
  refine G_aload_n dL_law_356 rfl rfl ?_
  refine G_callVi (ν := uX9_undo) (As := []) dL_law_357 nL_49 kX9_undo rfl rfl rfl rfl rfl (Nat.le_of_ble_eq_true rfl) (x_undo hX) ?_
  rintro _ Ma ⟨rfl, hXa, hFa⟩
  have hYa := YR_50 hY hFa
  refine G_aload_n dL_law_360 rfl rfl ?_
  refine G_callVi (ν := uX10_undo) (As := []) dL_law_361 nL_52 kX10_undo rfl rfl rfl rfl rfl (Nat.le_of_ble_eq_true rfl) (y_undo hYa) ?_
  rintro _ Mb ⟨rfl, hYb, hFb⟩
  have hXb := XR_50 hXa hFb
  exact G_icmp_eq (tgt := 765) dL_law_364 (by decide) (fun _ => back _ Mb hXb hYb) (fun h => absurd rfl h)
theorem lw_9 {n i : Nat} {xs : Nat → Int32} {s : AS} {M : Mem} (hn : n ≤ 3072) (hi : i + 6 ≤ n) (hX : XR s M) (hY : YR s M) (back : ∀ (s1 : AS) (M1 : Mem), XR s1 M1 → YR s1 M1 → G l α D cA uL (some (n, xs)) 11 QL 765 [some (.inr 999), some (.inr 0), some (.inr 50), some (.inl (nI i))] [] M1) : G l α D cA uL (some (n, xs)) 11 QL 369 [some (.inr 999), some (.inr 0), some (.inr 50), some (.inl (nI i))] [] M := by
  refine G_aload_n dL_law_369 rfl rfl ?_
  refine G_aload_n dL_law_370 rfl rfl ?_
  refine G_iload_n dL_law_371 rfl rfl ?_
  refine G_iconst (v := nI 1) dL_law_372 (by decide) ?_
  refine G_iadd (v := nI (i + 1)) dL_law_373 (nI_add _ _) ?_
  refine G_sld (n := n) (k := i + 1) (v := xs (i + 1)) (xs := xs) dL_law_374 rfl (vp_in_nI (by omega) (by omega)) (nI_clamp (by omega)) rfl ?_
  refine G_aload_n dL_law_375 rfl rfl ?_
  refine G_iload_n dL_law_376 rfl rfl ?_
  refine G_iconst (v := nI 2) dL_law_377 (by decide) ?_
  refine G_iadd (v := nI (i + 2)) dL_law_378 (nI_add _ _) ?_
  refine G_sld (n := n) (k := i + 2) (v := xs (i + 2)) (xs := xs) dL_law_379 rfl (vp_in_nI (by omega) (by omega)) (nI_clamp (by omega)) rfl ?_
  refine G_aload_n dL_law_380 rfl rfl ?_
  refine G_iload_n dL_law_381 rfl rfl ?_
  refine G_iconst (v := nI 3) dL_law_382 (by decide) ?_
  refine G_iadd (v := nI (i + 3)) dL_law_383 (nI_add _ _) ?_
  refine G_sld (n := n) (k := i + 3) (v := xs (i + 3)) (xs := xs) dL_law_384 rfl (vp_in_nI (by omega) (by omega)) (nI_clamp (by omega)) rfl ?_
  refine G_callVi (ν := uX9_cell) (As := [.inl (xs (i + 1)), .inl (xs (i + 2)), .inl (xs (i + 3))]) dL_law_385 nL_53 kX9_cell rfl rfl rfl rfl rfl (Nat.le_of_ble_eq_true rfl) (x_cell hX) ?_
  rintro _ Ma ⟨rfl, hXa, hFa⟩
  have hYa := YR_50 hY hFa
  refine G_aload_n dL_law_388 rfl rfl ?_
  refine G_aload_n dL_law_389 rfl rfl ?_
  refine G_iload_n dL_law_390 rfl rfl ?_
  refine G_iconst (v := nI 1) dL_law_391 (by decide) ?_
  refine G_iadd (v := nI (i + 1)) dL_law_392 (nI_add _ _) ?_
  refine G_sld (n := n) (k := i + 1) (v := xs (i + 1)) (xs := xs) dL_law_393 rfl (vp_in_nI (by omega) (by omega)) (nI_clamp (by omega)) rfl ?_
  refine G_aload_n dL_law_394 rfl rfl ?_
  refine G_iload_n dL_law_395 rfl rfl ?_
  refine G_iconst (v := nI 2) dL_law_396 (by decide) ?_
  refine G_iadd (v := nI (i + 2)) dL_law_397 (nI_add _ _) ?_
  refine G_sld (n := n) (k := i + 2) (v := xs (i + 2)) (xs := xs) dL_law_398 rfl (vp_in_nI (by omega) (by omega)) (nI_clamp (by omega)) rfl ?_
  refine G_aload_n dL_law_399 rfl rfl ?_
  refine G_iload_n dL_law_400 rfl rfl ?_
  refine G_iconst (v := nI 3) dL_law_401 (by decide) ?_
  refine G_iadd (v := nI (i + 3)) dL_law_402 (nI_add _ _) ?_
  refine G_sld (n := n) (k := i + 3) (v := xs (i + 3)) (xs := xs) dL_law_403 rfl (vp_in_nI (by omega) (by omega)) (nI_clamp (by omega)) rfl ?_
  refine G_callVi (ν := uX10_cell) (As := [.inl (xs (i + 1)), .inl (xs (i + 2)), .inl (xs (i + 3))]) dL_law_404 nL_57 kX10_cell rfl rfl rfl rfl rfl (Nat.le_of_ble_eq_true rfl) (y_cell hYa) ?_
  rintro _ Mb ⟨rfl, hYb, hFb⟩
  have hXb := XR_50 hXa hFb
  exact G_icmp_eq (tgt := 765) dL_law_407 (by decide) (fun _ => back _ Mb hXb hYb) (fun h => absurd rfl h)
theorem lw_10 {n i : Nat} {xs : Nat → Int32} {s : AS} {M : Mem} (hn : n ≤ 3072) (hi : i + 6 ≤ n) (hX : XR s M) (hY : YR s M) (back : ∀ (s1 : AS) (M1 : Mem), XR s1 M1 → YR s1 M1 → G l α D cA uL (some (n, xs)) 11 QL 765 [some (.inr 999), some (.inr 0), some (.inr 50), some (.inl (nI i))] [] M1) : G l α D cA uL (some (n, xs)) 11 QL 412 [some (.inr 999), some (.inr 0), some (.inr 50), some (.inl (nI i))] [] M := by
  refine G_aload_n dL_law_412 rfl rfl ?_
  refine G_aload_n dL_law_413 rfl rfl ?_
  refine G_iload_n dL_law_414 rfl rfl ?_
  refine G_iconst (v := nI 1) dL_law_415 (by decide) ?_
  refine G_iadd (v := nI (i + 1)) dL_law_416 (nI_add _ _) ?_
  refine G_sld (n := n) (k := i + 1) (v := xs (i + 1)) (xs := xs) dL_law_417 rfl (vp_in_nI (by omega) (by omega)) (nI_clamp (by omega)) rfl ?_
  refine G_aload_n dL_law_418 rfl rfl ?_
  refine G_iload_n dL_law_419 rfl rfl ?_
  refine G_iconst (v := nI 2) dL_law_420 (by decide) ?_
  refine G_iadd (v := nI (i + 2)) dL_law_421 (nI_add _ _) ?_
  refine G_sld (n := n) (k := i + 2) (v := xs (i + 2)) (xs := xs) dL_law_422 rfl (vp_in_nI (by omega) (by omega)) (nI_clamp (by omega)) rfl ?_
  refine G_callVi (ν := uX9_field) (As := [.inl (xs (i + 1)), .inl (xs (i + 2))]) dL_law_423 nL_58 kX9_field rfl rfl rfl rfl rfl (Nat.le_of_ble_eq_true rfl) (x_field hX) ?_
  rintro _ Ma ⟨rfl, hXa, hFa⟩
  have hYa := YR_50 hY hFa
  refine G_aload_n dL_law_426 rfl rfl ?_
  refine G_aload_n dL_law_427 rfl rfl ?_
  refine G_iload_n dL_law_428 rfl rfl ?_
  refine G_iconst (v := nI 1) dL_law_429 (by decide) ?_
  refine G_iadd (v := nI (i + 1)) dL_law_430 (nI_add _ _) ?_
  refine G_sld (n := n) (k := i + 1) (v := xs (i + 1)) (xs := xs) dL_law_431 rfl (vp_in_nI (by omega) (by omega)) (nI_clamp (by omega)) rfl ?_
  refine G_aload_n dL_law_432 rfl rfl ?_
  refine G_iload_n dL_law_433 rfl rfl ?_
  refine G_iconst (v := nI 2) dL_law_434 (by decide) ?_
  refine G_iadd (v := nI (i + 2)) dL_law_435 (nI_add _ _) ?_
  refine G_sld (n := n) (k := i + 2) (v := xs (i + 2)) (xs := xs) dL_law_436 rfl (vp_in_nI (by omega) (by omega)) (nI_clamp (by omega)) rfl ?_
  refine G_callVi (ν := uX10_field) (As := [.inl (xs (i + 1)), .inl (xs (i + 2))]) dL_law_437 nL_61 kX10_field rfl rfl rfl rfl rfl (Nat.le_of_ble_eq_true rfl) (y_field hYa) ?_
  rintro _ Mb ⟨rfl, hYb, hFb⟩
  have hXb := XR_50 hXa hFb
  exact G_icmp_eq (tgt := 765) dL_law_440 (by decide) (fun _ => back _ Mb hXb hYb) (fun h => absurd rfl h)
theorem lw_11 {n i : Nat} {xs : Nat → Int32} {s : AS} {M : Mem} (hn : n ≤ 3072) (hi : i + 6 ≤ n) (hX : XR s M) (hY : YR s M) (back : ∀ (s1 : AS) (M1 : Mem), XR s1 M1 → YR s1 M1 → G l α D cA uL (some (n, xs)) 11 QL 765 [some (.inr 999), some (.inr 0), some (.inr 50), some (.inl (nI i))] [] M1) : G l α D cA uL (some (n, xs)) 11 QL 445 [some (.inr 999), some (.inr 0), some (.inr 50), some (.inl (nI i))] [] M := by
  refine G_aload_n dL_law_445 rfl rfl ?_
  refine G_aload_n dL_law_446 rfl rfl ?_
  refine G_iload_n dL_law_447 rfl rfl ?_
  refine G_iconst (v := nI 1) dL_law_448 (by decide) ?_
  refine G_iadd (v := nI (i + 1)) dL_law_449 (nI_add _ _) ?_
  refine G_sld (n := n) (k := i + 1) (v := xs (i + 1)) (xs := xs) dL_law_450 rfl (vp_in_nI (by omega) (by omega)) (nI_clamp (by omega)) rfl ?_
  refine G_aload_n dL_law_451 rfl rfl ?_
  refine G_iload_n dL_law_452 rfl rfl ?_
  refine G_iconst (v := nI 2) dL_law_453 (by decide) ?_
  refine G_iadd (v := nI (i + 2)) dL_law_454 (nI_add _ _) ?_
  refine G_sld (n := n) (k := i + 2) (v := xs (i + 2)) (xs := xs) dL_law_455 rfl (vp_in_nI (by omega) (by omega)) (nI_clamp (by omega)) rfl ?_
  refine G_aload_n dL_law_456 rfl rfl ?_
  refine G_iload_n dL_law_457 rfl rfl ?_
  refine G_iconst (v := nI 3) dL_law_458 (by decide) ?_
  refine G_iadd (v := nI (i + 3)) dL_law_459 (nI_add _ _) ?_
  refine G_sld (n := n) (k := i + 3) (v := xs (i + 3)) (xs := xs) dL_law_460 rfl (vp_in_nI (by omega) (by omega)) (nI_clamp (by omega)) rfl ?_
  refine G_callVi (ν := uX9_sewn) (As := [.inl (xs (i + 1)), .inl (xs (i + 2)), .inl (xs (i + 3))]) dL_law_461 nL_62 kX9_sewn rfl rfl rfl rfl rfl (Nat.le_of_ble_eq_true rfl) (x_sewn hX) ?_
  rintro _ Ma ⟨rfl, hXa, hFa⟩
  have hYa := YR_50 hY hFa
  refine G_aload_n dL_law_464 rfl rfl ?_
  refine G_aload_n dL_law_465 rfl rfl ?_
  refine G_iload_n dL_law_466 rfl rfl ?_
  refine G_iconst (v := nI 1) dL_law_467 (by decide) ?_
  refine G_iadd (v := nI (i + 1)) dL_law_468 (nI_add _ _) ?_
  refine G_sld (n := n) (k := i + 1) (v := xs (i + 1)) (xs := xs) dL_law_469 rfl (vp_in_nI (by omega) (by omega)) (nI_clamp (by omega)) rfl ?_
  refine G_aload_n dL_law_470 rfl rfl ?_
  refine G_iload_n dL_law_471 rfl rfl ?_
  refine G_iconst (v := nI 2) dL_law_472 (by decide) ?_
  refine G_iadd (v := nI (i + 2)) dL_law_473 (nI_add _ _) ?_
  refine G_sld (n := n) (k := i + 2) (v := xs (i + 2)) (xs := xs) dL_law_474 rfl (vp_in_nI (by omega) (by omega)) (nI_clamp (by omega)) rfl ?_
  refine G_aload_n dL_law_475 rfl rfl ?_
  refine G_iload_n dL_law_476 rfl rfl ?_
  refine G_iconst (v := nI 3) dL_law_477 (by decide) ?_
  refine G_iadd (v := nI (i + 3)) dL_law_478 (nI_add _ _) ?_
  refine G_sld (n := n) (k := i + 3) (v := xs (i + 3)) (xs := xs) dL_law_479 rfl (vp_in_nI (by omega) (by omega)) (nI_clamp (by omega)) rfl ?_
  refine G_callVi (ν := uX10_sewn) (As := [.inl (xs (i + 1)), .inl (xs (i + 2)), .inl (xs (i + 3))]) dL_law_480 nL_65 kX10_sewn rfl rfl rfl rfl rfl (Nat.le_of_ble_eq_true rfl) (y_sewn hYa) ?_
  rintro _ Mb ⟨rfl, hYb, hFb⟩
  have hXb := XR_50 hXa hFb
  exact G_icmp_eq (tgt := 765) dL_law_483 (by decide) (fun _ => back _ Mb hXb hYb) (fun h => absurd rfl h)
theorem lw_12 {n i : Nat} {xs : Nat → Int32} {s : AS} {M : Mem} (hn : n ≤ 3072) (hi : i + 6 ≤ n) (hX : XR s M) (hY : YR s M) (back : ∀ (s1 : AS) (M1 : Mem), XR s1 M1 → YR s1 M1 → G l α D cA uL (some (n, xs)) 11 QL 765 [some (.inr 999), some (.inr 0), some (.inr 50), some (.inl (nI i))] [] M1) : G l α D cA uL (some (n, xs)) 11 QL 488 [some (.inr 999), some (.inr 0), some (.inr 50), some (.inl (nI i))] [] M := by
  refine G_aload_n dL_law_488 rfl rfl ?_
  refine G_aload_n dL_law_489 rfl rfl ?_
  refine G_iload_n dL_law_490 rfl rfl ?_
  refine G_iconst (v := nI 1) dL_law_491 (by decide) ?_
  refine G_iadd (v := nI (i + 1)) dL_law_492 (nI_add _ _) ?_
  refine G_sld (n := n) (k := i + 1) (v := xs (i + 1)) (xs := xs) dL_law_493 rfl (vp_in_nI (by omega) (by omega)) (nI_clamp (by omega)) rfl ?_
  refine G_aload_n dL_law_494 rfl rfl ?_
  refine G_iload_n dL_law_495 rfl rfl ?_
  refine G_iconst (v := nI 2) dL_law_496 (by decide) ?_
  refine G_iadd (v := nI (i + 2)) dL_law_497 (nI_add _ _) ?_
  refine G_sld (n := n) (k := i + 2) (v := xs (i + 2)) (xs := xs) dL_law_498 rfl (vp_in_nI (by omega) (by omega)) (nI_clamp (by omega)) rfl ?_
  refine G_aload_n dL_law_499 rfl rfl ?_
  refine G_iload_n dL_law_500 rfl rfl ?_
  refine G_iconst (v := nI 3) dL_law_501 (by decide) ?_
  refine G_iadd (v := nI (i + 3)) dL_law_502 (nI_add _ _) ?_
  refine G_sld (n := n) (k := i + 3) (v := xs (i + 3)) (xs := xs) dL_law_503 rfl (vp_in_nI (by omega) (by omega)) (nI_clamp (by omega)) rfl ?_
  refine G_aload_n dL_law_504 rfl rfl ?_
  refine G_iload_n dL_law_505 rfl rfl ?_
  refine G_iconst (v := nI 4) dL_law_506 (by decide) ?_
  refine G_iadd (v := nI (i + 4)) dL_law_507 (nI_add _ _) ?_
  refine G_sld (n := n) (k := i + 4) (v := xs (i + 4)) (xs := xs) dL_law_508 rfl (vp_in_nI (by omega) (by omega)) (nI_clamp (by omega)) rfl ?_
  refine G_callVi (ν := uX9_row) (As := [.inl (xs (i + 1)), .inl (xs (i + 2)), .inl (xs (i + 3)), .inl (xs (i + 4))]) dL_law_509 nL_66 kX9_row rfl rfl rfl rfl rfl (Nat.le_of_ble_eq_true rfl) (x_row hX) ?_
  rintro _ Ma ⟨rfl, hXa, hFa⟩
  have hYa := YR_50 hY hFa
  refine G_aload_n dL_law_512 rfl rfl ?_
  refine G_aload_n dL_law_513 rfl rfl ?_
  refine G_iload_n dL_law_514 rfl rfl ?_
  refine G_iconst (v := nI 1) dL_law_515 (by decide) ?_
  refine G_iadd (v := nI (i + 1)) dL_law_516 (nI_add _ _) ?_
  refine G_sld (n := n) (k := i + 1) (v := xs (i + 1)) (xs := xs) dL_law_517 rfl (vp_in_nI (by omega) (by omega)) (nI_clamp (by omega)) rfl ?_
  refine G_aload_n dL_law_518 rfl rfl ?_
  refine G_iload_n dL_law_519 rfl rfl ?_
  refine G_iconst (v := nI 2) dL_law_520 (by decide) ?_
  refine G_iadd (v := nI (i + 2)) dL_law_521 (nI_add _ _) ?_
  refine G_sld (n := n) (k := i + 2) (v := xs (i + 2)) (xs := xs) dL_law_522 rfl (vp_in_nI (by omega) (by omega)) (nI_clamp (by omega)) rfl ?_
  refine G_aload_n dL_law_523 rfl rfl ?_
  refine G_iload_n dL_law_524 rfl rfl ?_
  refine G_iconst (v := nI 3) dL_law_525 (by decide) ?_
  refine G_iadd (v := nI (i + 3)) dL_law_526 (nI_add _ _) ?_
  refine G_sld (n := n) (k := i + 3) (v := xs (i + 3)) (xs := xs) dL_law_527 rfl (vp_in_nI (by omega) (by omega)) (nI_clamp (by omega)) rfl ?_
  refine G_aload_n dL_law_528 rfl rfl ?_
  refine G_iload_n dL_law_529 rfl rfl ?_
  refine G_iconst (v := nI 4) dL_law_530 (by decide) ?_
  refine G_iadd (v := nI (i + 4)) dL_law_531 (nI_add _ _) ?_
  refine G_sld (n := n) (k := i + 4) (v := xs (i + 4)) (xs := xs) dL_law_532 rfl (vp_in_nI (by omega) (by omega)) (nI_clamp (by omega)) rfl ?_
  refine G_callVi (ν := uX10_row) (As := [.inl (xs (i + 1)), .inl (xs (i + 2)), .inl (xs (i + 3)), .inl (xs (i + 4))]) dL_law_533 nL_70 kX10_row rfl rfl rfl rfl rfl (Nat.le_of_ble_eq_true rfl) (y_row hYa) ?_
  rintro _ Mb ⟨rfl, hYb, hFb⟩
  have hXb := XR_50 hXa hFb
  exact G_icmp_eq (tgt := 765) dL_law_536 (by decide) (fun _ => back _ Mb hXb hYb) (fun h => absurd rfl h)
theorem lw_13 {n i : Nat} {xs : Nat → Int32} {s : AS} {M : Mem} (hn : n ≤ 3072) (hi : i + 6 ≤ n) (hX : XR s M) (hY : YR s M) (back : ∀ (s1 : AS) (M1 : Mem), XR s1 M1 → YR s1 M1 → G l α D cA uL (some (n, xs)) 11 QL 765 [some (.inr 999), some (.inr 0), some (.inr 50), some (.inl (nI i))] [] M1) : G l α D cA uL (some (n, xs)) 11 QL 541 [some (.inr 999), some (.inr 0), some (.inr 50), some (.inl (nI i))] [] M := by
  refine G_aload_n dL_law_541 rfl rfl ?_
  refine G_aload_n dL_law_542 rfl rfl ?_
  refine G_iload_n dL_law_543 rfl rfl ?_
  refine G_iconst (v := nI 1) dL_law_544 (by decide) ?_
  refine G_iadd (v := nI (i + 1)) dL_law_545 (nI_add _ _) ?_
  refine G_sld (n := n) (k := i + 1) (v := xs (i + 1)) (xs := xs) dL_law_546 rfl (vp_in_nI (by omega) (by omega)) (nI_clamp (by omega)) rfl ?_
  refine G_aload_n dL_law_547 rfl rfl ?_
  refine G_iload_n dL_law_548 rfl rfl ?_
  refine G_iconst (v := nI 2) dL_law_549 (by decide) ?_
  refine G_iadd (v := nI (i + 2)) dL_law_550 (nI_add _ _) ?_
  refine G_sld (n := n) (k := i + 2) (v := xs (i + 2)) (xs := xs) dL_law_551 rfl (vp_in_nI (by omega) (by omega)) (nI_clamp (by omega)) rfl ?_
  refine G_aload_n dL_law_552 rfl rfl ?_
  refine G_iload_n dL_law_553 rfl rfl ?_
  refine G_iconst (v := nI 3) dL_law_554 (by decide) ?_
  refine G_iadd (v := nI (i + 3)) dL_law_555 (nI_add _ _) ?_
  refine G_sld (n := n) (k := i + 3) (v := xs (i + 3)) (xs := xs) dL_law_556 rfl (vp_in_nI (by omega) (by omega)) (nI_clamp (by omega)) rfl ?_
  refine G_aload_n dL_law_557 rfl rfl ?_
  refine G_iload_n dL_law_558 rfl rfl ?_
  refine G_iconst (v := nI 4) dL_law_559 (by decide) ?_
  refine G_iadd (v := nI (i + 4)) dL_law_560 (nI_add _ _) ?_
  refine G_sld (n := n) (k := i + 4) (v := xs (i + 4)) (xs := xs) dL_law_561 rfl (vp_in_nI (by omega) (by omega)) (nI_clamp (by omega)) rfl ?_
  refine G_callVi (ν := uX9_part) (As := [.inl (xs (i + 1)), .inl (xs (i + 2)), .inl (xs (i + 3)), .inl (xs (i + 4))]) dL_law_562 nL_71 kX9_part rfl rfl rfl rfl rfl (Nat.le_of_ble_eq_true rfl) (x_part hX) ?_
  rintro _ Ma ⟨rfl, hXa, hFa⟩
  have hYa := YR_50 hY hFa
  refine G_aload_n dL_law_565 rfl rfl ?_
  refine G_aload_n dL_law_566 rfl rfl ?_
  refine G_iload_n dL_law_567 rfl rfl ?_
  refine G_iconst (v := nI 1) dL_law_568 (by decide) ?_
  refine G_iadd (v := nI (i + 1)) dL_law_569 (nI_add _ _) ?_
  refine G_sld (n := n) (k := i + 1) (v := xs (i + 1)) (xs := xs) dL_law_570 rfl (vp_in_nI (by omega) (by omega)) (nI_clamp (by omega)) rfl ?_
  refine G_aload_n dL_law_571 rfl rfl ?_
  refine G_iload_n dL_law_572 rfl rfl ?_
  refine G_iconst (v := nI 2) dL_law_573 (by decide) ?_
  refine G_iadd (v := nI (i + 2)) dL_law_574 (nI_add _ _) ?_
  refine G_sld (n := n) (k := i + 2) (v := xs (i + 2)) (xs := xs) dL_law_575 rfl (vp_in_nI (by omega) (by omega)) (nI_clamp (by omega)) rfl ?_
  refine G_aload_n dL_law_576 rfl rfl ?_
  refine G_iload_n dL_law_577 rfl rfl ?_
  refine G_iconst (v := nI 3) dL_law_578 (by decide) ?_
  refine G_iadd (v := nI (i + 3)) dL_law_579 (nI_add _ _) ?_
  refine G_sld (n := n) (k := i + 3) (v := xs (i + 3)) (xs := xs) dL_law_580 rfl (vp_in_nI (by omega) (by omega)) (nI_clamp (by omega)) rfl ?_
  refine G_aload_n dL_law_581 rfl rfl ?_
  refine G_iload_n dL_law_582 rfl rfl ?_
  refine G_iconst (v := nI 4) dL_law_583 (by decide) ?_
  refine G_iadd (v := nI (i + 4)) dL_law_584 (nI_add _ _) ?_
  refine G_sld (n := n) (k := i + 4) (v := xs (i + 4)) (xs := xs) dL_law_585 rfl (vp_in_nI (by omega) (by omega)) (nI_clamp (by omega)) rfl ?_
  refine G_callVi (ν := uX10_part) (As := [.inl (xs (i + 1)), .inl (xs (i + 2)), .inl (xs (i + 3)), .inl (xs (i + 4))]) dL_law_586 nL_74 kX10_part rfl rfl rfl rfl rfl (Nat.le_of_ble_eq_true rfl) (y_part hYa) ?_
  rintro _ Mb ⟨rfl, hYb, hFb⟩
  have hXb := XR_50 hXa hFb
  exact G_icmp_eq (tgt := 765) dL_law_589 (by decide) (fun _ => back _ Mb hXb hYb) (fun h => absurd rfl h)
theorem lw_14 {n i : Nat} {xs : Nat → Int32} {s : AS} {M : Mem} (hn : n ≤ 3072) (hi : i + 6 ≤ n) (hX : XR s M) (hY : YR s M) (back : ∀ (s1 : AS) (M1 : Mem), XR s1 M1 → YR s1 M1 → G l α D cA uL (some (n, xs)) 11 QL 765 [some (.inr 999), some (.inr 0), some (.inr 50), some (.inl (nI i))] [] M1) : G l α D cA uL (some (n, xs)) 11 QL 594 [some (.inr 999), some (.inr 0), some (.inr 50), some (.inl (nI i))] [] M := by
  refine G_aload_n dL_law_594 rfl rfl ?_
  refine G_aload_n dL_law_595 rfl rfl ?_
  refine G_iload_n dL_law_596 rfl rfl ?_
  refine G_iconst (v := nI 1) dL_law_597 (by decide) ?_
  refine G_iadd (v := nI (i + 1)) dL_law_598 (nI_add _ _) ?_
  refine G_sld (n := n) (k := i + 1) (v := xs (i + 1)) (xs := xs) dL_law_599 rfl (vp_in_nI (by omega) (by omega)) (nI_clamp (by omega)) rfl ?_
  refine G_callVi (ν := uX9_order) (As := [.inl (xs (i + 1))]) dL_law_600 nL_75 kX9_order rfl rfl rfl rfl rfl (Nat.le_of_ble_eq_true rfl) (x_order hX) ?_
  rintro _ Ma ⟨rfl, hXa, hFa⟩
  have hYa := YR_50 hY hFa
  refine G_aload_n dL_law_603 rfl rfl ?_
  refine G_aload_n dL_law_604 rfl rfl ?_
  refine G_iload_n dL_law_605 rfl rfl ?_
  refine G_iconst (v := nI 1) dL_law_606 (by decide) ?_
  refine G_iadd (v := nI (i + 1)) dL_law_607 (nI_add _ _) ?_
  refine G_sld (n := n) (k := i + 1) (v := xs (i + 1)) (xs := xs) dL_law_608 rfl (vp_in_nI (by omega) (by omega)) (nI_clamp (by omega)) rfl ?_
  refine G_callVi (ν := uX10_order) (As := [.inl (xs (i + 1))]) dL_law_609 nL_78 kX10_order rfl rfl rfl rfl rfl (Nat.le_of_ble_eq_true rfl) (y_order hYa) ?_
  rintro _ Mb ⟨rfl, hYb, hFb⟩
  have hXb := XR_50 hXa hFb
  exact G_icmp_eq (tgt := 765) dL_law_612 (by decide) (fun _ => back _ Mb hXb hYb) (fun h => absurd rfl h)
theorem lw_15 {n i : Nat} {xs : Nat → Int32} {s : AS} {M : Mem} (hn : n ≤ 3072) (hi : i + 6 ≤ n) (hX : XR s M) (hY : YR s M) (back : ∀ (s1 : AS) (M1 : Mem), XR s1 M1 → YR s1 M1 → G l α D cA uL (some (n, xs)) 11 QL 765 [some (.inr 999), some (.inr 0), some (.inr 50), some (.inl (nI i))] [] M1) : G l α D cA uL (some (n, xs)) 11 QL 617 [some (.inr 999), some (.inr 0), some (.inr 50), some (.inl (nI i))] [] M := by
  refine G_aload_n dL_law_617 rfl rfl ?_
  refine G_aload_n dL_law_618 rfl rfl ?_
  refine G_iload_n dL_law_619 rfl rfl ?_
  refine G_iconst (v := nI 1) dL_law_620 (by decide) ?_
  refine G_iadd (v := nI (i + 1)) dL_law_621 (nI_add _ _) ?_
  refine G_sld (n := n) (k := i + 1) (v := xs (i + 1)) (xs := xs) dL_law_622 rfl (vp_in_nI (by omega) (by omega)) (nI_clamp (by omega)) rfl ?_
  refine G_aload_n dL_law_623 rfl rfl ?_
  refine G_iload_n dL_law_624 rfl rfl ?_
  refine G_iconst (v := nI 2) dL_law_625 (by decide) ?_
  refine G_iadd (v := nI (i + 2)) dL_law_626 (nI_add _ _) ?_
  refine G_sld (n := n) (k := i + 2) (v := xs (i + 2)) (xs := xs) dL_law_627 rfl (vp_in_nI (by omega) (by omega)) (nI_clamp (by omega)) rfl ?_
  refine G_aload_n dL_law_628 rfl rfl ?_
  refine G_iload_n dL_law_629 rfl rfl ?_
  refine G_iconst (v := nI 3) dL_law_630 (by decide) ?_
  refine G_iadd (v := nI (i + 3)) dL_law_631 (nI_add _ _) ?_
  refine G_sld (n := n) (k := i + 3) (v := xs (i + 3)) (xs := xs) dL_law_632 rfl (vp_in_nI (by omega) (by omega)) (nI_clamp (by omega)) rfl ?_
  refine G_callVi (ν := uX9_sees) (As := [.inl (xs (i + 1)), .inl (xs (i + 2)), .inl (xs (i + 3))]) dL_law_633 nL_79 kX9_sees rfl rfl rfl rfl rfl (Nat.le_of_ble_eq_true rfl) (x_sees hX) ?_
  rintro _ Ma ⟨rfl, hXa, hFa⟩
  have hYa := YR_50 hY hFa
  refine G_aload_n dL_law_636 rfl rfl ?_
  refine G_aload_n dL_law_637 rfl rfl ?_
  refine G_iload_n dL_law_638 rfl rfl ?_
  refine G_iconst (v := nI 1) dL_law_639 (by decide) ?_
  refine G_iadd (v := nI (i + 1)) dL_law_640 (nI_add _ _) ?_
  refine G_sld (n := n) (k := i + 1) (v := xs (i + 1)) (xs := xs) dL_law_641 rfl (vp_in_nI (by omega) (by omega)) (nI_clamp (by omega)) rfl ?_
  refine G_aload_n dL_law_642 rfl rfl ?_
  refine G_iload_n dL_law_643 rfl rfl ?_
  refine G_iconst (v := nI 2) dL_law_644 (by decide) ?_
  refine G_iadd (v := nI (i + 2)) dL_law_645 (nI_add _ _) ?_
  refine G_sld (n := n) (k := i + 2) (v := xs (i + 2)) (xs := xs) dL_law_646 rfl (vp_in_nI (by omega) (by omega)) (nI_clamp (by omega)) rfl ?_
  refine G_aload_n dL_law_647 rfl rfl ?_
  refine G_iload_n dL_law_648 rfl rfl ?_
  refine G_iconst (v := nI 3) dL_law_649 (by decide) ?_
  refine G_iadd (v := nI (i + 3)) dL_law_650 (nI_add _ _) ?_
  refine G_sld (n := n) (k := i + 3) (v := xs (i + 3)) (xs := xs) dL_law_651 rfl (vp_in_nI (by omega) (by omega)) (nI_clamp (by omega)) rfl ?_
  refine G_callVi (ν := uX10_sees) (As := [.inl (xs (i + 1)), .inl (xs (i + 2)), .inl (xs (i + 3))]) dL_law_652 nL_82 kX10_sees rfl rfl rfl rfl rfl (Nat.le_of_ble_eq_true rfl) (y_sees hYa) ?_
  rintro _ Mb ⟨rfl, hYb, hFb⟩
  have hXb := XR_50 hXa hFb
  exact G_icmp_eq (tgt := 765) dL_law_655 (by decide) (fun _ => back _ Mb hXb hYb) (fun h => absurd rfl h)
theorem lw_16 {n i : Nat} {xs : Nat → Int32} {s : AS} {M : Mem} (hn : n ≤ 3072) (hi : i + 6 ≤ n) (hX : XR s M) (hY : YR s M) (back : ∀ (s1 : AS) (M1 : Mem), XR s1 M1 → YR s1 M1 → G l α D cA uL (some (n, xs)) 11 QL 765 [some (.inr 999), some (.inr 0), some (.inr 50), some (.inl (nI i))] [] M1) : G l α D cA uL (some (n, xs)) 11 QL 660 [some (.inr 999), some (.inr 0), some (.inr 50), some (.inl (nI i))] [] M := by
  refine G_aload_n dL_law_660 rfl rfl ?_
  refine G_callVi (ν := uX9_forget) (As := []) dL_law_661 nL_83 kX9_forget rfl rfl rfl rfl rfl (Nat.le_of_ble_eq_true rfl) (x_forget hX) ?_
  rintro _ Ma ⟨rfl, hXa, hFa⟩
  have hYa := YR_50 hY hFa
  refine G_aload_n dL_law_664 rfl rfl ?_
  refine G_callVi (ν := uX10_forget) (As := []) dL_law_665 nL_86 kX10_forget rfl rfl rfl rfl rfl (Nat.le_of_ble_eq_true rfl) (y_forget hYa) ?_
  rintro _ Mb ⟨rfl, hYb, hFb⟩
  have hXb := XR_50 hXa hFb
  exact G_icmp_eq (tgt := 765) dL_law_668 (by decide) (fun _ => back _ Mb hXb hYb) (fun h => absurd rfl h)
theorem lw_17 {n i : Nat} {xs : Nat → Int32} {s : AS} {M : Mem} (hn : n ≤ 3072) (hi : i + 6 ≤ n) (hX : XR s M) (hY : YR s M) (back : ∀ (s1 : AS) (M1 : Mem), XR s1 M1 → YR s1 M1 → G l α D cA uL (some (n, xs)) 11 QL 765 [some (.inr 999), some (.inr 0), some (.inr 50), some (.inl (nI i))] [] M1) : G l α D cA uL (some (n, xs)) 11 QL 673 [some (.inr 999), some (.inr 0), some (.inr 50), some (.inl (nI i))] [] M := by
  refine G_aload_n dL_law_673 rfl rfl ?_
  refine G_aload_n dL_law_674 rfl rfl ?_
  refine G_iload_n dL_law_675 rfl rfl ?_
  refine G_iconst (v := nI 1) dL_law_676 (by decide) ?_
  refine G_iadd (v := nI (i + 1)) dL_law_677 (nI_add _ _) ?_
  refine G_sld (n := n) (k := i + 1) (v := xs (i + 1)) (xs := xs) dL_law_678 rfl (vp_in_nI (by omega) (by omega)) (nI_clamp (by omega)) rfl ?_
  refine G_callVi (ν := uX9_which) (As := [.inl (xs (i + 1))]) dL_law_679 nL_87 kX9_which rfl rfl rfl rfl rfl (Nat.le_of_ble_eq_true rfl) (x_which hX) ?_
  rintro _ Ma ⟨rfl, hXa, hFa⟩
  have hYa := YR_50 hY hFa
  refine G_aload_n dL_law_682 rfl rfl ?_
  refine G_aload_n dL_law_683 rfl rfl ?_
  refine G_iload_n dL_law_684 rfl rfl ?_
  refine G_iconst (v := nI 1) dL_law_685 (by decide) ?_
  refine G_iadd (v := nI (i + 1)) dL_law_686 (nI_add _ _) ?_
  refine G_sld (n := n) (k := i + 1) (v := xs (i + 1)) (xs := xs) dL_law_687 rfl (vp_in_nI (by omega) (by omega)) (nI_clamp (by omega)) rfl ?_
  refine G_callVi (ν := uX10_which) (As := [.inl (xs (i + 1))]) dL_law_688 nL_90 kX10_which rfl rfl rfl rfl rfl (Nat.le_of_ble_eq_true rfl) (y_which hYa) ?_
  rintro _ Mb ⟨rfl, hYb, hFb⟩
  have hXb := XR_50 hXa hFb
  exact G_icmp_eq (tgt := 765) dL_law_691 (by decide) (fun _ => back _ Mb hXb hYb) (fun h => absurd rfl h)
theorem lw_18 {n i : Nat} {xs : Nat → Int32} {s : AS} {M : Mem} (hn : n ≤ 3072) (hi : i + 6 ≤ n) (hX : XR s M) (hY : YR s M) (back : ∀ (s1 : AS) (M1 : Mem), XR s1 M1 → YR s1 M1 → G l α D cA uL (some (n, xs)) 11 QL 765 [some (.inr 999), some (.inr 0), some (.inr 50), some (.inl (nI i))] [] M1) : G l α D cA uL (some (n, xs)) 11 QL 696 [some (.inr 999), some (.inr 0), some (.inr 50), some (.inl (nI i))] [] M := by
  refine G_aload_n dL_law_696 rfl rfl ?_
  refine G_aload_n dL_law_697 rfl rfl ?_
  refine G_iload_n dL_law_698 rfl rfl ?_
  refine G_iconst (v := nI 1) dL_law_699 (by decide) ?_
  refine G_iadd (v := nI (i + 1)) dL_law_700 (nI_add _ _) ?_
  refine G_sld (n := n) (k := i + 1) (v := xs (i + 1)) (xs := xs) dL_law_701 rfl (vp_in_nI (by omega) (by omega)) (nI_clamp (by omega)) rfl ?_
  refine G_callVi (ν := uX9_keep) (As := [.inl (xs (i + 1))]) dL_law_702 nL_91 kX9_keep rfl rfl rfl rfl rfl (Nat.le_of_ble_eq_true rfl) (x_keep hX) ?_
  rintro _ Ma ⟨rfl, hXa, hFa⟩
  have hYa := YR_50 hY hFa
  refine G_aload_n dL_law_705 rfl rfl ?_
  refine G_aload_n dL_law_706 rfl rfl ?_
  refine G_iload_n dL_law_707 rfl rfl ?_
  refine G_iconst (v := nI 1) dL_law_708 (by decide) ?_
  refine G_iadd (v := nI (i + 1)) dL_law_709 (nI_add _ _) ?_
  refine G_sld (n := n) (k := i + 1) (v := xs (i + 1)) (xs := xs) dL_law_710 rfl (vp_in_nI (by omega) (by omega)) (nI_clamp (by omega)) rfl ?_
  refine G_callVi (ν := uX10_keep) (As := [.inl (xs (i + 1))]) dL_law_711 nL_94 kX10_keep rfl rfl rfl rfl rfl (Nat.le_of_ble_eq_true rfl) (y_keep hYa) ?_
  rintro _ Mb ⟨rfl, hYb, hFb⟩
  have hXb := XR_50 hXa hFb
  exact G_icmp_eq (tgt := 765) dL_law_714 (by decide) (fun _ => back _ Mb hXb hYb) (fun h => absurd rfl h)
theorem lw_19 {n i : Nat} {xs : Nat → Int32} {s : AS} {M : Mem} (hn : n ≤ 3072) (hi : i + 6 ≤ n) (hX : XR s M) (hY : YR s M) (back : ∀ (s1 : AS) (M1 : Mem), XR s1 M1 → YR s1 M1 → G l α D cA uL (some (n, xs)) 11 QL 765 [some (.inr 999), some (.inr 0), some (.inr 50), some (.inl (nI i))] [] M1) : G l α D cA uL (some (n, xs)) 11 QL 719 [some (.inr 999), some (.inr 0), some (.inr 50), some (.inl (nI i))] [] M := by
  refine G_aload_n dL_law_719 rfl rfl ?_
  refine G_aload_n dL_law_720 rfl rfl ?_
  refine G_iload_n dL_law_721 rfl rfl ?_
  refine G_iconst (v := nI 1) dL_law_722 (by decide) ?_
  refine G_iadd (v := nI (i + 1)) dL_law_723 (nI_add _ _) ?_
  refine G_sld (n := n) (k := i + 1) (v := xs (i + 1)) (xs := xs) dL_law_724 rfl (vp_in_nI (by omega) (by omega)) (nI_clamp (by omega)) rfl ?_
  refine G_callVi (ν := uX9_back) (As := [.inl (xs (i + 1))]) dL_law_725 nL_95 kX9_back rfl rfl rfl rfl rfl (Nat.le_of_ble_eq_true rfl) (x_back hX) ?_
  rintro _ Ma ⟨rfl, hXa, hFa⟩
  have hYa := YR_50 hY hFa
  refine G_aload_n dL_law_728 rfl rfl ?_
  refine G_aload_n dL_law_729 rfl rfl ?_
  refine G_iload_n dL_law_730 rfl rfl ?_
  refine G_iconst (v := nI 1) dL_law_731 (by decide) ?_
  refine G_iadd (v := nI (i + 1)) dL_law_732 (nI_add _ _) ?_
  refine G_sld (n := n) (k := i + 1) (v := xs (i + 1)) (xs := xs) dL_law_733 rfl (vp_in_nI (by omega) (by omega)) (nI_clamp (by omega)) rfl ?_
  refine G_callVi (ν := uX10_back) (As := [.inl (xs (i + 1))]) dL_law_734 nL_98 kX10_back rfl rfl rfl rfl rfl (Nat.le_of_ble_eq_true rfl) (y_back hYa) ?_
  rintro _ Mb ⟨rfl, hYb, hFb⟩
  have hXb := XR_50 hXa hFb
  exact G_icmp_eq (tgt := 765) dL_law_737 (by decide) (fun _ => back _ Mb hXb hYb) (fun h => absurd rfl h)
theorem lw_20 {n i : Nat} {xs : Nat → Int32} {s : AS} {M : Mem} (hn : n ≤ 3072) (hi : i + 6 ≤ n) (hX : XR s M) (hY : YR s M) (back : ∀ (s1 : AS) (M1 : Mem), XR s1 M1 → YR s1 M1 → G l α D cA uL (some (n, xs)) 11 QL 765 [some (.inr 999), some (.inr 0), some (.inr 50), some (.inl (nI i))] [] M1) : G l α D cA uL (some (n, xs)) 11 QL 742 [some (.inr 999), some (.inr 0), some (.inr 50), some (.inl (nI i))] [] M := by
  refine G_aload_n dL_law_742 rfl rfl ?_
  refine G_aload_n dL_law_743 rfl rfl ?_
  refine G_iload_n dL_law_744 rfl rfl ?_
  refine G_iconst (v := nI 1) dL_law_745 (by decide) ?_
  refine G_iadd (v := nI (i + 1)) dL_law_746 (nI_add _ _) ?_
  refine G_sld (n := n) (k := i + 1) (v := xs (i + 1)) (xs := xs) dL_law_747 rfl (vp_in_nI (by omega) (by omega)) (nI_clamp (by omega)) rfl ?_
  refine G_callVi (ν := uX9_count) (As := [.inl (xs (i + 1))]) dL_law_748 nL_99 kX9_count rfl rfl rfl rfl rfl (Nat.le_of_ble_eq_true rfl) (x_count hX) ?_
  rintro _ Ma ⟨rfl, hXa, hFa⟩
  have hYa := YR_50 hY hFa
  refine G_aload_n dL_law_751 rfl rfl ?_
  refine G_aload_n dL_law_752 rfl rfl ?_
  refine G_iload_n dL_law_753 rfl rfl ?_
  refine G_iconst (v := nI 1) dL_law_754 (by decide) ?_
  refine G_iadd (v := nI (i + 1)) dL_law_755 (nI_add _ _) ?_
  refine G_sld (n := n) (k := i + 1) (v := xs (i + 1)) (xs := xs) dL_law_756 rfl (vp_in_nI (by omega) (by omega)) (nI_clamp (by omega)) rfl ?_
  refine G_callVi (ν := uX10_count) (As := [.inl (xs (i + 1))]) dL_law_757 nL_102 kX10_count rfl rfl rfl rfl rfl (Nat.le_of_ble_eq_true rfl) (y_count hYa) ?_
  rintro _ Mb ⟨rfl, hYb, hFb⟩
  have hXb := XR_50 hXa hFb
  exact G_icmp_eq (tgt := 765) dL_law_760 (by decide) (fun _ => back _ Mb hXb hYb) (fun h => absurd rfl h)
theorem lw_loop {n : Nat} {xs : Nat → Int32} (hn : n ≤ 3072) : ∀ (k i : Nat) (s : AS) (M : Mem), n - i = k → i ≤ n → XR s M → YR s M → G l α D cA uL (some (n, xs)) 11 QL 18 [some (.inr 999), some (.inr 0), some (.inr 50), some (.inl (nI i))] [] M := by
  intro k
  induction k using Nat.strongRecOn with
  | _ k ih => ?_
  intro i s M hk hin hX hY
  refine G_iload_n dL_law_18 rfl rfl ?_
  refine G_aload_n dL_law_19 rfl rfl ?_
  refine G_slen (n := n) (v := nI n) (xs := xs) dL_law_20 rfl rfl ?_
  refine G_bipush (v := nI 6) dL_law_21 (by decide) ?_
  refine G_isub (v := nI n - nI 6) dL_law_23 rfl ?_
  refine G_icmp_gt (tgt := 771) dL_law_24 (by decide) (fun _ => ?_) (fun h => ?_)
  · refine G_iconst (v := 1) dL_law_771 (by decide) ?_
    exact G_iret dL_law_772 rfl rfl rfl
  · have hi : i + 6 ≤ n := lw_fit (by omega) (by omega) h
    refine G_aload_n dL_law_27 rfl rfl ?_
    refine G_iload_n dL_law_28 rfl rfl ?_
    refine G_sld (n := n) (k := i) (v := xs i) (xs := xs) dL_law_29 rfl (vp_in_nI (by omega) (by omega)) (nI_clamp (by omega)) rfl ?_
    refine G_bipush (v := nI 31) dL_law_30 (by decide) ?_
    refine G_iand (v := xs i &&& nI 31) dL_law_32 rfl ?_
    have back : ∀ (s1 : AS) (M1 : Mem), XR s1 M1 → YR s1 M1 → G l α D cA uL (some (n, xs)) 11 QL 765 [some (.inr 999), some (.inr 0), some (.inr 50), some (.inl (nI i))] [] M1 := fun s1 M1 hX1 hY1 => by
      refine G_iinc (v := nI (i + 6)) (L2 := [some (.inr 999), some (.inr 0), some (.inr 50), some (.inl (nI (i + 6)))]) dL_law_765 rfl (nI_add i 6) rfl ?_
      refine G_goto (tgt := 18) dL_law_768 (by decide) ?_
      exact ih (n - (i + 6)) (by omega) (i + 6) s1 M1 rfl (by omega) hX1 hY1
    generalize xs i &&& nI 31 = w
    rcases (show w = nI 0 ∨ w = nI 1 ∨ w = nI 2 ∨ w = nI 3 ∨ w = nI 4 ∨ w = nI 5 ∨ w = nI 6 ∨ w = nI 7 ∨ w = nI 8 ∨ w = nI 9 ∨ w = nI 10 ∨ w = nI 11 ∨ w = nI 12 ∨ w = nI 13 ∨ w = nI 14 ∨ w = nI 15 ∨ w = nI 16 ∨ w = nI 17 ∨ w = nI 18 ∨ w = nI 19 ∨ w = nI 20 ∨ ¬ inI 0 20 w from cases_20) with rfl | rfl | rfl | rfl | rfl | rfl | rfl | rfl | rfl | rfl | rfl | rfl | rfl | rfl | rfl | rfl | rfl | rfl | rfl | rfl | rfl | hno
    · exact G_swIn (tgt := 132) dL_law_33 (by decide) (by decide) rfl (by decide) (lw_0 hn hi hX hY back)
    · exact G_swIn (tgt := 155) dL_law_33 (by decide) (by decide) rfl (by decide) (lw_1 hn hi hX hY back)
    · exact G_swIn (tgt := 168) dL_law_33 (by decide) (by decide) rfl (by decide) (lw_2 hn hi hX hY back)
    · exact G_swIn (tgt := 181) dL_law_33 (by decide) (by decide) rfl (by decide) (lw_3 hn hi hX hY back)
    · exact G_swIn (tgt := 244) dL_law_33 (by decide) (by decide) rfl (by decide) (lw_4 hn hi hX hY back)
    · exact G_swIn (tgt := 277) dL_law_33 (by decide) (by decide) rfl (by decide) (lw_5 hn hi hX hY back)
    · exact G_swIn (tgt := 310) dL_law_33 (by decide) (by decide) rfl (by decide) (lw_6 hn hi hX hY back)
    · exact G_swIn (tgt := 333) dL_law_33 (by decide) (by decide) rfl (by decide) (lw_7 hn hi hX hY back)
    · exact G_swIn (tgt := 356) dL_law_33 (by decide) (by decide) rfl (by decide) (lw_8 hn hi hX hY back)
    · exact G_swIn (tgt := 369) dL_law_33 (by decide) (by decide) rfl (by decide) (lw_9 hn hi hX hY back)
    · exact G_swIn (tgt := 412) dL_law_33 (by decide) (by decide) rfl (by decide) (lw_10 hn hi hX hY back)
    · exact G_swIn (tgt := 445) dL_law_33 (by decide) (by decide) rfl (by decide) (lw_11 hn hi hX hY back)
    · exact G_swIn (tgt := 488) dL_law_33 (by decide) (by decide) rfl (by decide) (lw_12 hn hi hX hY back)
    · exact G_swIn (tgt := 541) dL_law_33 (by decide) (by decide) rfl (by decide) (lw_13 hn hi hX hY back)
    · exact G_swIn (tgt := 594) dL_law_33 (by decide) (by decide) rfl (by decide) (lw_14 hn hi hX hY back)
    · exact G_swIn (tgt := 617) dL_law_33 (by decide) (by decide) rfl (by decide) (lw_15 hn hi hX hY back)
    · exact G_swIn (tgt := 660) dL_law_33 (by decide) (by decide) rfl (by decide) (lw_16 hn hi hX hY back)
    · exact G_swIn (tgt := 673) dL_law_33 (by decide) (by decide) rfl (by decide) (lw_17 hn hi hX hY back)
    · exact G_swIn (tgt := 696) dL_law_33 (by decide) (by decide) rfl (by decide) (lw_18 hn hi hX hY back)
    · exact G_swIn (tgt := 719) dL_law_33 (by decide) (by decide) rfl (by decide) (lw_19 hn hi hX hY back)
    · exact G_swIn (tgt := 742) dL_law_33 (by decide) (by decide) rfl (by decide) (lw_20 hn hi hX hY back)
    · exact G_swOut (tgt := 765) dL_law_33 (sw_out (n := 20) hno (by decide) rfl) (by decide) (back s M hX hY)
end P46
