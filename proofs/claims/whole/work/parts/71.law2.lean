theorem lc_self (r : Int64) : lg_cmp r r = 0 := by
  simp [lg_cmp]
set_option maxRecDepth 100000 in
set_option maxHeartbeats 4000000 in
theorem lc_0 {p : Program} {l : Launch} {e : Env} {s : State} {m : MethodId} {below : List Frame} {meth : Method} {c : Code} {b L i : Nat} {xs : Nat → Int32} {g : Gh} {qc qm : Nat → Nat} {σ τ : St} {H : Heap} {locs : List Loc} {ls : Array Slot} {Q : State → Prop} (X : MX p s m #[Value.ref b] meth c cL_law 4 (some .boolean) RL) (hX : va_X b L xs s s.heap) (hbl : b < s.heap.size) (hL : L ≤ 384) (hi : i + 6 ≤ L) (J : LJ g (eC g qc) qc 23 (eM g qm) qm 22 s σ τ H locs) (hR : Rel σ τ) (hl : lv_has ls 4 [(0, .ref b), (1, .ref (qc 0)), (2, .ref (qm 0)), (3, .int (nI i))]) (kk : ∀ (σ' τ' : St) (H1 : Heap) (locs1 : List Loc), Rel σ' τ' → LJ g (eC g qc) qc 23 (eM g qm) qm 22 s σ' τ' H1 locs1 → W p l e room_1 s m #[Value.ref b] below meth c H1 locs1 100 10000 Q (F0 m 1140 ls [])) : W p l e room_1 s m #[Value.ref b] below meth c H locs 100 10000 Q (F0 m 168 ls []) := by
  have hx := X.1
  have hb := X.2.1
  have hbA : ¬ (fun a : Nat => s.heap.size ≤ a) b := Nat.not_le.mpr hbl
  obtain ⟨r, σ', τ', e1, e2, hR'⟩ := pf_ride hR (xs (nI i + 1).toNatClampNeg) (xs (nI i + 2).toNatClampNeg) (xs (nI i + 3).toNatClampNeg) (xs (nI i + 4).toNatClampNeg)
  refine lv_aload_n hx hb dL_law_168 rfl (lv_at hl 1 rfl) ?_
  refine lv_aload_n hx hb dL_law_169 rfl (lv_at hl 0 rfl) ?_
  refine lv_iload_n hx hb dL_law_170 rfl (lv_at hl 3 rfl) ?_
  refine lv_iconst (v := 1) hx hb dL_law_171 (by decide) ?_
  refine lv_iadd hx hb dL_law_172 ?_
  refine va_sld hx hb hX hbl hbA J.2.2.2.2.2.2 (vp_k (k := 1) hi (by decide) hL) dL_law_173 ?_
  refine lv_aload_n hx hb dL_law_174 rfl (lv_at hl 0 rfl) ?_
  refine lv_iload_n hx hb dL_law_175 rfl (lv_at hl 3 rfl) ?_
  refine lv_iconst (v := 2) hx hb dL_law_176 (by decide) ?_
  refine lv_iadd hx hb dL_law_177 ?_
  refine va_sld hx hb hX hbl hbA J.2.2.2.2.2.2 (vp_k (k := 2) hi (by decide) hL) dL_law_178 ?_
  refine lv_aload_n hx hb dL_law_179 rfl (lv_at hl 0 rfl) ?_
  refine lv_iload_n hx hb dL_law_180 rfl (lv_at hl 3 rfl) ?_
  refine lv_iconst (v := 3) hx hb dL_law_181 (by decide) ?_
  refine lv_iadd hx hb dL_law_182 ?_
  refine va_sld hx hb hX hbl hbA J.2.2.2.2.2.2 (vp_k (k := 3) hi (by decide) hL) dL_law_183 ?_
  refine lv_aload_n hx hb dL_law_184 rfl (lv_at hl 0 rfl) ?_
  refine lv_iload_n hx hb dL_law_185 rfl (lv_at hl 3 rfl) ?_
  refine lv_iconst (v := 4) hx hb dL_law_186 (by decide) ?_
  refine lv_iadd hx hb dL_law_187 ?_
  refine va_sld hx hb hX hbl hbA J.2.2.2.2.2.2 (vp_k (k := 4) hi (by decide) hL) dL_law_188 ?_
  refine l_calli (l_runV (cn := 0) (As := [.int (xs (nI i + 1).toNatClampNeg), .int (xs (nI i + 2).toNatClampNeg), .int (xs (nI i + 3).toNatClampNeg), .int (xs (nI i + 4).toNatClampNeg)]) (rest := []) X J (c_X6_ride l g qc _ _ (xs (nI i + 1).toNatClampNeg) (xs (nI i + 2).toNatClampNeg) (xs (nI i + 3).toNatClampNeg) (xs (nI i + 4).toNatClampNeg) e1) kv_X6_ride ml_L_13 rfl (by decide) (eC_YearDeck g qc _) ⟨Nat.le_of_ble_eq_true rfl, Nat.le_of_ble_eq_true rfl⟩ ⟨Nat.le_of_ble_eq_true rfl, Nat.le_of_ble_eq_true rfl⟩ rfl rfl hl.1 (Nat.le_of_ble_eq_true rfl) dL_law_189) J (fun H locs J => ?_)
  have J := J.swap
  refine lv_aload_n hx hb dL_law_192 rfl (lv_at hl 2 rfl) ?_
  refine lv_aload_n hx hb dL_law_193 rfl (lv_at hl 0 rfl) ?_
  refine lv_iload_n hx hb dL_law_194 rfl (lv_at hl 3 rfl) ?_
  refine lv_iconst (v := 1) hx hb dL_law_195 (by decide) ?_
  refine lv_iadd hx hb dL_law_196 ?_
  refine va_sld hx hb hX hbl hbA J.2.2.2.2.2.2 (vp_k (k := 1) hi (by decide) hL) dL_law_197 ?_
  refine lv_aload_n hx hb dL_law_198 rfl (lv_at hl 0 rfl) ?_
  refine lv_iload_n hx hb dL_law_199 rfl (lv_at hl 3 rfl) ?_
  refine lv_iconst (v := 2) hx hb dL_law_200 (by decide) ?_
  refine lv_iadd hx hb dL_law_201 ?_
  refine va_sld hx hb hX hbl hbA J.2.2.2.2.2.2 (vp_k (k := 2) hi (by decide) hL) dL_law_202 ?_
  refine lv_aload_n hx hb dL_law_203 rfl (lv_at hl 0 rfl) ?_
  refine lv_iload_n hx hb dL_law_204 rfl (lv_at hl 3 rfl) ?_
  refine lv_iconst (v := 3) hx hb dL_law_205 (by decide) ?_
  refine lv_iadd hx hb dL_law_206 ?_
  refine va_sld hx hb hX hbl hbA J.2.2.2.2.2.2 (vp_k (k := 3) hi (by decide) hL) dL_law_207 ?_
  refine lv_aload_n hx hb dL_law_208 rfl (lv_at hl 0 rfl) ?_
  refine lv_iload_n hx hb dL_law_209 rfl (lv_at hl 3 rfl) ?_
  refine lv_iconst (v := 4) hx hb dL_law_210 (by decide) ?_
  refine lv_iadd hx hb dL_law_211 ?_
  refine va_sld hx hb hX hbl hbA J.2.2.2.2.2.2 (vp_k (k := 4) hi (by decide) hL) dL_law_212 ?_
  refine l_calli (l_runV (cn := 0) (As := [.int (xs (nI i + 1).toNatClampNeg), .int (xs (nI i + 2).toNatClampNeg), .int (xs (nI i + 3).toNatClampNeg), .int (xs (nI i + 4).toNatClampNeg)]) (rest := [.int r]) X J (c_X7_ride l g qm _ _ (xs (nI i + 1).toNatClampNeg) (xs (nI i + 2).toNatClampNeg) (xs (nI i + 3).toNatClampNeg) (xs (nI i + 4).toNatClampNeg) e2) kv_X7_ride ml_L_17 rfl (by decide) (eM_Model g qm _) ⟨Nat.le_of_ble_eq_true rfl, Nat.le_of_ble_eq_true rfl⟩ ⟨Nat.le_of_ble_eq_true rfl, Nat.le_of_ble_eq_true rfl⟩ rfl rfl hl.1 (Nat.le_of_ble_eq_true rfl) dL_law_213) J (fun H locs J => ?_)
  have J := J.swap
  refine lv_icmp_eq (tgt := 1140) hx hb dL_law_216 (by decide) (fun _ => ?_) (fun c9 => absurd rfl c9)
  exact kk σ' τ' H locs hR' J
set_option maxRecDepth 100000 in
set_option maxHeartbeats 4000000 in
theorem lc_1 {p : Program} {l : Launch} {e : Env} {s : State} {m : MethodId} {below : List Frame} {meth : Method} {c : Code} {b L i : Nat} {xs : Nat → Int32} {g : Gh} {qc qm : Nat → Nat} {σ τ : St} {H : Heap} {locs : List Loc} {ls : Array Slot} {Q : State → Prop} (X : MX p s m #[Value.ref b] meth c cL_law 4 (some .boolean) RL) (hX : va_X b L xs s s.heap) (hbl : b < s.heap.size) (hL : L ≤ 384) (hi : i + 6 ≤ L) (J : LJ g (eC g qc) qc 23 (eM g qm) qm 22 s σ τ H locs) (hR : Rel σ τ) (hl : lv_has ls 4 [(0, .ref b), (1, .ref (qc 0)), (2, .ref (qm 0)), (3, .int (nI i))]) (kk : ∀ (σ' τ' : St) (H1 : Heap) (locs1 : List Loc), Rel σ' τ' → LJ g (eC g qc) qc 23 (eM g qm) qm 22 s σ' τ' H1 locs1 → W p l e room_1 s m #[Value.ref b] below meth c H1 locs1 100 10000 Q (F0 m 1140 ls [])) : W p l e room_1 s m #[Value.ref b] below meth c H locs 100 10000 Q (F0 m 221 ls []) := by
  have hx := X.1
  have hb := X.2.1
  have hbA : ¬ (fun a : Nat => s.heap.size ≤ a) b := Nat.not_le.mpr hbl
  obtain ⟨r, e1, e2⟩ := pf_ofRider hR (xs (nI i + 1).toNatClampNeg) (xs (nI i + 2).toNatClampNeg)
  refine lv_aload_n hx hb dL_law_221 rfl (lv_at hl 1 rfl) ?_
  refine lv_aload_n hx hb dL_law_222 rfl (lv_at hl 0 rfl) ?_
  refine lv_iload_n hx hb dL_law_223 rfl (lv_at hl 3 rfl) ?_
  refine lv_iconst (v := 1) hx hb dL_law_224 (by decide) ?_
  refine lv_iadd hx hb dL_law_225 ?_
  refine va_sld hx hb hX hbl hbA J.2.2.2.2.2.2 (vp_k (k := 1) hi (by decide) hL) dL_law_226 ?_
  refine lv_aload_n hx hb dL_law_227 rfl (lv_at hl 0 rfl) ?_
  refine lv_iload_n hx hb dL_law_228 rfl (lv_at hl 3 rfl) ?_
  refine lv_iconst (v := 2) hx hb dL_law_229 (by decide) ?_
  refine lv_iadd hx hb dL_law_230 ?_
  refine va_sld hx hb hX hbl hbA J.2.2.2.2.2.2 (vp_k (k := 2) hi (by decide) hL) dL_law_231 ?_
  refine l_calli (l_runV (cn := 0) (As := [.int (xs (nI i + 1).toNatClampNeg), .int (xs (nI i + 2).toNatClampNeg)]) (rest := []) X J (c_X6_ofRider l g qc _ _ (xs (nI i + 1).toNatClampNeg) (xs (nI i + 2).toNatClampNeg) e1) kv_X6_ofRider ml_L_18 rfl (by decide) (eC_YearDeck g qc _) ⟨Nat.le_of_ble_eq_true rfl, Nat.le_of_ble_eq_true rfl⟩ ⟨Nat.le_of_ble_eq_true rfl, Nat.le_of_ble_eq_true rfl⟩ rfl rfl hl.1 (Nat.le_of_ble_eq_true rfl) dL_law_232) J (fun H locs J => ?_)
  have J := J.swap
  refine lv_aload_n hx hb dL_law_235 rfl (lv_at hl 2 rfl) ?_
  refine lv_aload_n hx hb dL_law_236 rfl (lv_at hl 0 rfl) ?_
  refine lv_iload_n hx hb dL_law_237 rfl (lv_at hl 3 rfl) ?_
  refine lv_iconst (v := 1) hx hb dL_law_238 (by decide) ?_
  refine lv_iadd hx hb dL_law_239 ?_
  refine va_sld hx hb hX hbl hbA J.2.2.2.2.2.2 (vp_k (k := 1) hi (by decide) hL) dL_law_240 ?_
  refine lv_aload_n hx hb dL_law_241 rfl (lv_at hl 0 rfl) ?_
  refine lv_iload_n hx hb dL_law_242 rfl (lv_at hl 3 rfl) ?_
  refine lv_iconst (v := 2) hx hb dL_law_243 (by decide) ?_
  refine lv_iadd hx hb dL_law_244 ?_
  refine va_sld hx hb hX hbl hbA J.2.2.2.2.2.2 (vp_k (k := 2) hi (by decide) hL) dL_law_245 ?_
  refine l_calli (l_runV (cn := 0) (As := [.int (xs (nI i + 1).toNatClampNeg), .int (xs (nI i + 2).toNatClampNeg)]) (rest := [.int r]) X J (c_X7_ofRider l g qm _ _ (xs (nI i + 1).toNatClampNeg) (xs (nI i + 2).toNatClampNeg) e2) kv_X7_ofRider ml_L_22 rfl (by decide) (eM_Model g qm _) ⟨Nat.le_of_ble_eq_true rfl, Nat.le_of_ble_eq_true rfl⟩ ⟨Nat.le_of_ble_eq_true rfl, Nat.le_of_ble_eq_true rfl⟩ rfl rfl hl.1 (Nat.le_of_ble_eq_true rfl) dL_law_246) J (fun H locs J => ?_)
  have J := J.swap
  refine lv_icmp_eq (tgt := 1140) hx hb dL_law_249 (by decide) (fun _ => ?_) (fun c9 => absurd rfl c9)
  exact kk σ τ H locs hR J
set_option maxRecDepth 100000 in
set_option maxHeartbeats 4000000 in
theorem lc_2 {p : Program} {l : Launch} {e : Env} {s : State} {m : MethodId} {below : List Frame} {meth : Method} {c : Code} {b L i : Nat} {xs : Nat → Int32} {g : Gh} {qc qm : Nat → Nat} {σ τ : St} {H : Heap} {locs : List Loc} {ls : Array Slot} {Q : State → Prop} (X : MX p s m #[Value.ref b] meth c cL_law 4 (some .boolean) RL) (hX : va_X b L xs s s.heap) (hbl : b < s.heap.size) (hL : L ≤ 384) (hi : i + 6 ≤ L) (J : LJ g (eC g qc) qc 23 (eM g qm) qm 22 s σ τ H locs) (hR : Rel σ τ) (hl : lv_has ls 4 [(0, .ref b), (1, .ref (qc 0)), (2, .ref (qm 0)), (3, .int (nI i))]) (kk : ∀ (σ' τ' : St) (H1 : Heap) (locs1 : List Loc), Rel σ' τ' → LJ g (eC g qc) qc 23 (eM g qm) qm 22 s σ' τ' H1 locs1 → W p l e room_1 s m #[Value.ref b] below meth c H1 locs1 100 10000 Q (F0 m 1140 ls [])) : W p l e room_1 s m #[Value.ref b] below meth c H locs 100 10000 Q (F0 m 254 ls []) := by
  have hx := X.1
  have hb := X.2.1
  have hbA : ¬ (fun a : Nat => s.heap.size ≤ a) b := Nat.not_le.mpr hbl
  obtain ⟨r, e1, e2⟩ := pf_slope hR (xs (nI i + 1).toNatClampNeg)
  refine lv_aload_n hx hb dL_law_254 rfl (lv_at hl 1 rfl) ?_
  refine lv_aload_n hx hb dL_law_255 rfl (lv_at hl 0 rfl) ?_
  refine lv_iload_n hx hb dL_law_256 rfl (lv_at hl 3 rfl) ?_
  refine lv_iconst (v := 1) hx hb dL_law_257 (by decide) ?_
  refine lv_iadd hx hb dL_law_258 ?_
  refine va_sld hx hb hX hbl hbA J.2.2.2.2.2.2 (vp_k (k := 1) hi (by decide) hL) dL_law_259 ?_
  refine l_calli (l_runV (cn := 0) (As := [.int (xs (nI i + 1).toNatClampNeg)]) (rest := []) X J (c_X6_slope l g qc _ _ (xs (nI i + 1).toNatClampNeg) e1) kv_X6_slope ml_L_23 rfl (by decide) (eC_YearDeck g qc _) ⟨Nat.le_of_ble_eq_true rfl, Nat.le_of_ble_eq_true rfl⟩ ⟨Nat.le_of_ble_eq_true rfl, Nat.le_of_ble_eq_true rfl⟩ rfl rfl hl.1 (Nat.le_of_ble_eq_true rfl) dL_law_260) J (fun H locs J => ?_)
  have J := J.swap
  refine lv_aload_n hx hb dL_law_263 rfl (lv_at hl 2 rfl) ?_
  refine lv_aload_n hx hb dL_law_264 rfl (lv_at hl 0 rfl) ?_
  refine lv_iload_n hx hb dL_law_265 rfl (lv_at hl 3 rfl) ?_
  refine lv_iconst (v := 1) hx hb dL_law_266 (by decide) ?_
  refine lv_iadd hx hb dL_law_267 ?_
  refine va_sld hx hb hX hbl hbA J.2.2.2.2.2.2 (vp_k (k := 1) hi (by decide) hL) dL_law_268 ?_
  refine l_calli (l_runV (cn := 0) (As := [.int (xs (nI i + 1).toNatClampNeg)]) (rest := [.int r]) X J (c_X7_slope l g qm _ _ (xs (nI i + 1).toNatClampNeg) e2) kv_X7_slope ml_L_27 rfl (by decide) (eM_Model g qm _) ⟨Nat.le_of_ble_eq_true rfl, Nat.le_of_ble_eq_true rfl⟩ ⟨Nat.le_of_ble_eq_true rfl, Nat.le_of_ble_eq_true rfl⟩ rfl rfl hl.1 (Nat.le_of_ble_eq_true rfl) dL_law_269) J (fun H locs J => ?_)
  have J := J.swap
  refine lv_icmp_eq (tgt := 1140) hx hb dL_law_272 (by decide) (fun _ => ?_) (fun c9 => absurd rfl c9)
  exact kk σ τ H locs hR J
set_option maxRecDepth 100000 in
set_option maxHeartbeats 4000000 in
theorem lc_3 {p : Program} {l : Launch} {e : Env} {s : State} {m : MethodId} {below : List Frame} {meth : Method} {c : Code} {b L i : Nat} {xs : Nat → Int32} {g : Gh} {qc qm : Nat → Nat} {σ τ : St} {H : Heap} {locs : List Loc} {ls : Array Slot} {Q : State → Prop} (X : MX p s m #[Value.ref b] meth c cL_law 4 (some .boolean) RL) (hX : va_X b L xs s s.heap) (hbl : b < s.heap.size) (hL : L ≤ 384) (hi : i + 6 ≤ L) (J : LJ g (eC g qc) qc 23 (eM g qm) qm 22 s σ τ H locs) (hR : Rel σ τ) (hl : lv_has ls 4 [(0, .ref b), (1, .ref (qc 0)), (2, .ref (qm 0)), (3, .int (nI i))]) (kk : ∀ (σ' τ' : St) (H1 : Heap) (locs1 : List Loc), Rel σ' τ' → LJ g (eC g qc) qc 23 (eM g qm) qm 22 s σ' τ' H1 locs1 → W p l e room_1 s m #[Value.ref b] below meth c H1 locs1 100 10000 Q (F0 m 1140 ls [])) : W p l e room_1 s m #[Value.ref b] below meth c H locs 100 10000 Q (F0 m 277 ls []) := by
  have hx := X.1
  have hb := X.2.1
  have hbA : ¬ (fun a : Nat => s.heap.size ≤ a) b := Nat.not_le.mpr hbl
  obtain ⟨r, σ', τ', e1, e2, hR'⟩ := pf_tilt hR (xs (nI i + 1).toNatClampNeg) (xs (nI i + 2).toNatClampNeg)
  refine lv_aload_n hx hb dL_law_277 rfl (lv_at hl 1 rfl) ?_
  refine lv_aload_n hx hb dL_law_278 rfl (lv_at hl 0 rfl) ?_
  refine lv_iload_n hx hb dL_law_279 rfl (lv_at hl 3 rfl) ?_
  refine lv_iconst (v := 1) hx hb dL_law_280 (by decide) ?_
  refine lv_iadd hx hb dL_law_281 ?_
  refine va_sld hx hb hX hbl hbA J.2.2.2.2.2.2 (vp_k (k := 1) hi (by decide) hL) dL_law_282 ?_
  refine lv_aload_n hx hb dL_law_283 rfl (lv_at hl 0 rfl) ?_
  refine lv_iload_n hx hb dL_law_284 rfl (lv_at hl 3 rfl) ?_
  refine lv_iconst (v := 2) hx hb dL_law_285 (by decide) ?_
  refine lv_iadd hx hb dL_law_286 ?_
  refine va_sld hx hb hX hbl hbA J.2.2.2.2.2.2 (vp_k (k := 2) hi (by decide) hL) dL_law_287 ?_
  refine l_calli (l_runV (cn := 0) (As := [.int (xs (nI i + 1).toNatClampNeg), .int (xs (nI i + 2).toNatClampNeg)]) (rest := []) X J (c_X6_tilt l g qc _ _ (xs (nI i + 1).toNatClampNeg) (xs (nI i + 2).toNatClampNeg) e1) kv_X6_tilt ml_L_28 rfl (by decide) (eC_YearDeck g qc _) ⟨Nat.le_of_ble_eq_true rfl, Nat.le_of_ble_eq_true rfl⟩ ⟨Nat.le_of_ble_eq_true rfl, Nat.le_of_ble_eq_true rfl⟩ rfl rfl hl.1 (Nat.le_of_ble_eq_true rfl) dL_law_288) J (fun H locs J => ?_)
  have J := J.swap
  refine lv_aload_n hx hb dL_law_291 rfl (lv_at hl 2 rfl) ?_
  refine lv_aload_n hx hb dL_law_292 rfl (lv_at hl 0 rfl) ?_
  refine lv_iload_n hx hb dL_law_293 rfl (lv_at hl 3 rfl) ?_
  refine lv_iconst (v := 1) hx hb dL_law_294 (by decide) ?_
  refine lv_iadd hx hb dL_law_295 ?_
  refine va_sld hx hb hX hbl hbA J.2.2.2.2.2.2 (vp_k (k := 1) hi (by decide) hL) dL_law_296 ?_
  refine lv_aload_n hx hb dL_law_297 rfl (lv_at hl 0 rfl) ?_
  refine lv_iload_n hx hb dL_law_298 rfl (lv_at hl 3 rfl) ?_
  refine lv_iconst (v := 2) hx hb dL_law_299 (by decide) ?_
  refine lv_iadd hx hb dL_law_300 ?_
  refine va_sld hx hb hX hbl hbA J.2.2.2.2.2.2 (vp_k (k := 2) hi (by decide) hL) dL_law_301 ?_
  refine l_calli (l_runV (cn := 0) (As := [.int (xs (nI i + 1).toNatClampNeg), .int (xs (nI i + 2).toNatClampNeg)]) (rest := [.int r]) X J (c_X7_tilt l g qm _ _ (xs (nI i + 1).toNatClampNeg) (xs (nI i + 2).toNatClampNeg) e2) kv_X7_tilt ml_L_31 rfl (by decide) (eM_Model g qm _) ⟨Nat.le_of_ble_eq_true rfl, Nat.le_of_ble_eq_true rfl⟩ ⟨Nat.le_of_ble_eq_true rfl, Nat.le_of_ble_eq_true rfl⟩ rfl rfl hl.1 (Nat.le_of_ble_eq_true rfl) dL_law_302) J (fun H locs J => ?_)
  have J := J.swap
  refine lv_icmp_eq (tgt := 1140) hx hb dL_law_305 (by decide) (fun _ => ?_) (fun c9 => absurd rfl c9)
  exact kk σ' τ' H locs hR' J
set_option maxRecDepth 100000 in
set_option maxHeartbeats 4000000 in
theorem lc_4 {p : Program} {l : Launch} {e : Env} {s : State} {m : MethodId} {below : List Frame} {meth : Method} {c : Code} {b L i : Nat} {xs : Nat → Int32} {g : Gh} {qc qm : Nat → Nat} {σ τ : St} {H : Heap} {locs : List Loc} {ls : Array Slot} {Q : State → Prop} (X : MX p s m #[Value.ref b] meth c cL_law 4 (some .boolean) RL) (hX : va_X b L xs s s.heap) (hbl : b < s.heap.size) (hL : L ≤ 384) (hi : i + 6 ≤ L) (J : LJ g (eC g qc) qc 23 (eM g qm) qm 22 s σ τ H locs) (hR : Rel σ τ) (hl : lv_has ls 4 [(0, .ref b), (1, .ref (qc 0)), (2, .ref (qm 0)), (3, .int (nI i))]) (kk : ∀ (σ' τ' : St) (H1 : Heap) (locs1 : List Loc), Rel σ' τ' → LJ g (eC g qc) qc 23 (eM g qm) qm 22 s σ' τ' H1 locs1 → W p l e room_1 s m #[Value.ref b] below meth c H1 locs1 100 10000 Q (F0 m 1140 ls [])) : W p l e room_1 s m #[Value.ref b] below meth c H locs 100 10000 Q (F0 m 310 ls []) := by
  have hx := X.1
  have hb := X.2.1
  have hbA : ¬ (fun a : Nat => s.heap.size ≤ a) b := Nat.not_le.mpr hbl
  obtain ⟨r, σ', τ', e1, e2, hR'⟩ := pf_seat hR (xs (nI i + 1).toNatClampNeg)
  refine lv_aload_n hx hb dL_law_310 rfl (lv_at hl 1 rfl) ?_
  refine lv_aload_n hx hb dL_law_311 rfl (lv_at hl 0 rfl) ?_
  refine lv_iload_n hx hb dL_law_312 rfl (lv_at hl 3 rfl) ?_
  refine lv_iconst (v := 1) hx hb dL_law_313 (by decide) ?_
  refine lv_iadd hx hb dL_law_314 ?_
  refine va_sld hx hb hX hbl hbA J.2.2.2.2.2.2 (vp_k (k := 1) hi (by decide) hL) dL_law_315 ?_
  refine l_calli (l_runV (cn := 0) (As := [.int (xs (nI i + 1).toNatClampNeg)]) (rest := []) X J (c_X6_seat l g qc _ _ (xs (nI i + 1).toNatClampNeg) e1) kv_X6_seat ml_L_32 rfl (by decide) (eC_YearDeck g qc _) ⟨Nat.le_of_ble_eq_true rfl, Nat.le_of_ble_eq_true rfl⟩ ⟨Nat.le_of_ble_eq_true rfl, Nat.le_of_ble_eq_true rfl⟩ rfl rfl hl.1 (Nat.le_of_ble_eq_true rfl) dL_law_316) J (fun H locs J => ?_)
  have J := J.swap
  refine lv_aload_n hx hb dL_law_319 rfl (lv_at hl 2 rfl) ?_
  refine lv_aload_n hx hb dL_law_320 rfl (lv_at hl 0 rfl) ?_
  refine lv_iload_n hx hb dL_law_321 rfl (lv_at hl 3 rfl) ?_
  refine lv_iconst (v := 1) hx hb dL_law_322 (by decide) ?_
  refine lv_iadd hx hb dL_law_323 ?_
  refine va_sld hx hb hX hbl hbA J.2.2.2.2.2.2 (vp_k (k := 1) hi (by decide) hL) dL_law_324 ?_
  refine l_calli (l_runV (cn := 0) (As := [.int (xs (nI i + 1).toNatClampNeg)]) (rest := [.int r]) X J (c_X7_seat l g qm _ _ (xs (nI i + 1).toNatClampNeg) e2) kv_X7_seat ml_L_35 rfl (by decide) (eM_Model g qm _) ⟨Nat.le_of_ble_eq_true rfl, Nat.le_of_ble_eq_true rfl⟩ ⟨Nat.le_of_ble_eq_true rfl, Nat.le_of_ble_eq_true rfl⟩ rfl rfl hl.1 (Nat.le_of_ble_eq_true rfl) dL_law_325) J (fun H locs J => ?_)
  have J := J.swap
  refine lv_icmp_eq (tgt := 1140) hx hb dL_law_328 (by decide) (fun _ => ?_) (fun c9 => absurd rfl c9)
  exact kk σ' τ' H locs hR' J
set_option maxRecDepth 100000 in
set_option maxHeartbeats 4000000 in
theorem lc_5 {p : Program} {l : Launch} {e : Env} {s : State} {m : MethodId} {below : List Frame} {meth : Method} {c : Code} {b L i : Nat} {xs : Nat → Int32} {g : Gh} {qc qm : Nat → Nat} {σ τ : St} {H : Heap} {locs : List Loc} {ls : Array Slot} {Q : State → Prop} (X : MX p s m #[Value.ref b] meth c cL_law 4 (some .boolean) RL) (hX : va_X b L xs s s.heap) (hbl : b < s.heap.size) (hL : L ≤ 384) (hi : i + 6 ≤ L) (J : LJ g (eC g qc) qc 23 (eM g qm) qm 22 s σ τ H locs) (hR : Rel σ τ) (hl : lv_has ls 4 [(0, .ref b), (1, .ref (qc 0)), (2, .ref (qm 0)), (3, .int (nI i))]) (kk : ∀ (σ' τ' : St) (H1 : Heap) (locs1 : List Loc), Rel σ' τ' → LJ g (eC g qc) qc 23 (eM g qm) qm 22 s σ' τ' H1 locs1 → W p l e room_1 s m #[Value.ref b] below meth c H1 locs1 100 10000 Q (F0 m 1140 ls [])) : W p l e room_1 s m #[Value.ref b] below meth c H locs 100 10000 Q (F0 m 333 ls []) := by
  have hx := X.1
  have hb := X.2.1
  have hbA : ¬ (fun a : Nat => s.heap.size ≤ a) b := Nat.not_le.mpr hbl
  obtain ⟨r, σ', τ', e1, e2, hR'⟩ := pf_wish hR (xs (nI i + 1).toNatClampNeg) (xs (nI i + 2).toNatClampNeg)
  refine lv_aload_n hx hb dL_law_333 rfl (lv_at hl 1 rfl) ?_
  refine lv_aload_n hx hb dL_law_334 rfl (lv_at hl 0 rfl) ?_
  refine lv_iload_n hx hb dL_law_335 rfl (lv_at hl 3 rfl) ?_
  refine lv_iconst (v := 1) hx hb dL_law_336 (by decide) ?_
  refine lv_iadd hx hb dL_law_337 ?_
  refine va_sld hx hb hX hbl hbA J.2.2.2.2.2.2 (vp_k (k := 1) hi (by decide) hL) dL_law_338 ?_
  refine lv_aload_n hx hb dL_law_339 rfl (lv_at hl 0 rfl) ?_
  refine lv_iload_n hx hb dL_law_340 rfl (lv_at hl 3 rfl) ?_
  refine lv_iconst (v := 2) hx hb dL_law_341 (by decide) ?_
  refine lv_iadd hx hb dL_law_342 ?_
  refine va_sld hx hb hX hbl hbA J.2.2.2.2.2.2 (vp_k (k := 2) hi (by decide) hL) dL_law_343 ?_
  refine l_calli (l_runV (cn := 0) (As := [.int (xs (nI i + 1).toNatClampNeg), .int (xs (nI i + 2).toNatClampNeg)]) (rest := []) X J (c_X6_wish l g qc _ _ (xs (nI i + 1).toNatClampNeg) (xs (nI i + 2).toNatClampNeg) e1) kv_X6_wish ml_L_36 rfl (by decide) (eC_YearDeck g qc _) ⟨Nat.le_of_ble_eq_true rfl, Nat.le_of_ble_eq_true rfl⟩ ⟨Nat.le_of_ble_eq_true rfl, Nat.le_of_ble_eq_true rfl⟩ rfl rfl hl.1 (Nat.le_of_ble_eq_true rfl) dL_law_344) J (fun H locs J => ?_)
  have J := J.swap
  refine lv_aload_n hx hb dL_law_347 rfl (lv_at hl 2 rfl) ?_
  refine lv_aload_n hx hb dL_law_348 rfl (lv_at hl 0 rfl) ?_
  refine lv_iload_n hx hb dL_law_349 rfl (lv_at hl 3 rfl) ?_
  refine lv_iconst (v := 1) hx hb dL_law_350 (by decide) ?_
  refine lv_iadd hx hb dL_law_351 ?_
  refine va_sld hx hb hX hbl hbA J.2.2.2.2.2.2 (vp_k (k := 1) hi (by decide) hL) dL_law_352 ?_
  refine lv_aload_n hx hb dL_law_353 rfl (lv_at hl 0 rfl) ?_
  refine lv_iload_n hx hb dL_law_354 rfl (lv_at hl 3 rfl) ?_
  refine lv_iconst (v := 2) hx hb dL_law_355 (by decide) ?_
  refine lv_iadd hx hb dL_law_356 ?_
  refine va_sld hx hb hX hbl hbA J.2.2.2.2.2.2 (vp_k (k := 2) hi (by decide) hL) dL_law_357 ?_
  refine l_calli (l_runV (cn := 0) (As := [.int (xs (nI i + 1).toNatClampNeg), .int (xs (nI i + 2).toNatClampNeg)]) (rest := [.int r]) X J (c_X7_wish l g qm _ _ (xs (nI i + 1).toNatClampNeg) (xs (nI i + 2).toNatClampNeg) e2) kv_X7_wish ml_L_39 rfl (by decide) (eM_Model g qm _) ⟨Nat.le_of_ble_eq_true rfl, Nat.le_of_ble_eq_true rfl⟩ ⟨Nat.le_of_ble_eq_true rfl, Nat.le_of_ble_eq_true rfl⟩ rfl rfl hl.1 (Nat.le_of_ble_eq_true rfl) dL_law_358) J (fun H locs J => ?_)
  have J := J.swap
  refine lv_icmp_eq (tgt := 1140) hx hb dL_law_361 (by decide) (fun _ => ?_) (fun c9 => absurd rfl c9)
  exact kk σ' τ' H locs hR' J
set_option maxRecDepth 100000 in
set_option maxHeartbeats 4000000 in
theorem lc_6 {p : Program} {l : Launch} {e : Env} {s : State} {m : MethodId} {below : List Frame} {meth : Method} {c : Code} {b L i : Nat} {xs : Nat → Int32} {g : Gh} {qc qm : Nat → Nat} {σ τ : St} {H : Heap} {locs : List Loc} {ls : Array Slot} {Q : State → Prop} (X : MX p s m #[Value.ref b] meth c cL_law 4 (some .boolean) RL) (hX : va_X b L xs s s.heap) (hbl : b < s.heap.size) (hL : L ≤ 384) (hi : i + 6 ≤ L) (J : LJ g (eC g qc) qc 23 (eM g qm) qm 22 s σ τ H locs) (hR : Rel σ τ) (hl : lv_has ls 4 [(0, .ref b), (1, .ref (qc 0)), (2, .ref (qm 0)), (3, .int (nI i))]) (kk : ∀ (σ' τ' : St) (H1 : Heap) (locs1 : List Loc), Rel σ' τ' → LJ g (eC g qc) qc 23 (eM g qm) qm 22 s σ' τ' H1 locs1 → W p l e room_1 s m #[Value.ref b] below meth c H1 locs1 100 10000 Q (F0 m 1140 ls [])) : W p l e room_1 s m #[Value.ref b] below meth c H locs 100 10000 Q (F0 m 366 ls []) := by
  have hx := X.1
  have hb := X.2.1
  have hbA : ¬ (fun a : Nat => s.heap.size ≤ a) b := Nat.not_le.mpr hbl
  obtain ⟨r, e1, e2⟩ := pf_gain hR (xs (nI i + 1).toNatClampNeg) (xs (nI i + 2).toNatClampNeg)
  refine lv_aload_n hx hb dL_law_366 rfl (lv_at hl 1 rfl) ?_
  refine lv_aload_n hx hb dL_law_367 rfl (lv_at hl 0 rfl) ?_
  refine lv_iload_n hx hb dL_law_368 rfl (lv_at hl 3 rfl) ?_
  refine lv_iconst (v := 1) hx hb dL_law_369 (by decide) ?_
  refine lv_iadd hx hb dL_law_370 ?_
  refine va_sld hx hb hX hbl hbA J.2.2.2.2.2.2 (vp_k (k := 1) hi (by decide) hL) dL_law_371 ?_
  refine lv_aload_n hx hb dL_law_372 rfl (lv_at hl 0 rfl) ?_
  refine lv_iload_n hx hb dL_law_373 rfl (lv_at hl 3 rfl) ?_
  refine lv_iconst (v := 2) hx hb dL_law_374 (by decide) ?_
  refine lv_iadd hx hb dL_law_375 ?_
  refine va_sld hx hb hX hbl hbA J.2.2.2.2.2.2 (vp_k (k := 2) hi (by decide) hL) dL_law_376 ?_
  refine l_calli (l_runV (cn := 0) (As := [.int (xs (nI i + 1).toNatClampNeg), .int (xs (nI i + 2).toNatClampNeg)]) (rest := []) X J (c_X6_gain l g qc _ _ (xs (nI i + 1).toNatClampNeg) (xs (nI i + 2).toNatClampNeg) e1) kv_X6_gain ml_L_40 rfl (by decide) (eC_YearDeck g qc _) ⟨Nat.le_of_ble_eq_true rfl, Nat.le_of_ble_eq_true rfl⟩ ⟨Nat.le_of_ble_eq_true rfl, Nat.le_of_ble_eq_true rfl⟩ rfl rfl hl.1 (Nat.le_of_ble_eq_true rfl) dL_law_377) J (fun H locs J => ?_)
  have J := J.swap
  refine lv_aload_n hx hb dL_law_380 rfl (lv_at hl 2 rfl) ?_
  refine lv_aload_n hx hb dL_law_381 rfl (lv_at hl 0 rfl) ?_
  refine lv_iload_n hx hb dL_law_382 rfl (lv_at hl 3 rfl) ?_
  refine lv_iconst (v := 1) hx hb dL_law_383 (by decide) ?_
  refine lv_iadd hx hb dL_law_384 ?_
  refine va_sld hx hb hX hbl hbA J.2.2.2.2.2.2 (vp_k (k := 1) hi (by decide) hL) dL_law_385 ?_
  refine lv_aload_n hx hb dL_law_386 rfl (lv_at hl 0 rfl) ?_
  refine lv_iload_n hx hb dL_law_387 rfl (lv_at hl 3 rfl) ?_
  refine lv_iconst (v := 2) hx hb dL_law_388 (by decide) ?_
  refine lv_iadd hx hb dL_law_389 ?_
  refine va_sld hx hb hX hbl hbA J.2.2.2.2.2.2 (vp_k (k := 2) hi (by decide) hL) dL_law_390 ?_
  refine l_calli (l_runV (cn := 0) (As := [.int (xs (nI i + 1).toNatClampNeg), .int (xs (nI i + 2).toNatClampNeg)]) (rest := [.int r]) X J (c_X7_gain l g qm _ _ (xs (nI i + 1).toNatClampNeg) (xs (nI i + 2).toNatClampNeg) e2) kv_X7_gain ml_L_43 rfl (by decide) (eM_Model g qm _) ⟨Nat.le_of_ble_eq_true rfl, Nat.le_of_ble_eq_true rfl⟩ ⟨Nat.le_of_ble_eq_true rfl, Nat.le_of_ble_eq_true rfl⟩ rfl rfl hl.1 (Nat.le_of_ble_eq_true rfl) dL_law_391) J (fun H locs J => ?_)
  have J := J.swap
  refine lv_icmp_eq (tgt := 1140) hx hb dL_law_394 (by decide) (fun _ => ?_) (fun c9 => absurd rfl c9)
  exact kk σ τ H locs hR J
set_option maxRecDepth 100000 in
set_option maxHeartbeats 4000000 in
theorem lc_7 {p : Program} {l : Launch} {e : Env} {s : State} {m : MethodId} {below : List Frame} {meth : Method} {c : Code} {b L i : Nat} {xs : Nat → Int32} {g : Gh} {qc qm : Nat → Nat} {σ τ : St} {H : Heap} {locs : List Loc} {ls : Array Slot} {Q : State → Prop} (X : MX p s m #[Value.ref b] meth c cL_law 4 (some .boolean) RL) (hX : va_X b L xs s s.heap) (hbl : b < s.heap.size) (hL : L ≤ 384) (hi : i + 6 ≤ L) (J : LJ g (eC g qc) qc 23 (eM g qm) qm 22 s σ τ H locs) (hR : Rel σ τ) (hl : lv_has ls 4 [(0, .ref b), (1, .ref (qc 0)), (2, .ref (qm 0)), (3, .int (nI i))]) (kk : ∀ (σ' τ' : St) (H1 : Heap) (locs1 : List Loc), Rel σ' τ' → LJ g (eC g qc) qc 23 (eM g qm) qm 22 s σ' τ' H1 locs1 → W p l e room_1 s m #[Value.ref b] below meth c H1 locs1 100 10000 Q (F0 m 1140 ls [])) : W p l e room_1 s m #[Value.ref b] below meth c H locs 100 10000 Q (F0 m 399 ls []) := by
  have hx := X.1
  have hb := X.2.1
  have hbA : ¬ (fun a : Nat => s.heap.size ≤ a) b := Nat.not_le.mpr hbl
  obtain ⟨r, e1, e2⟩ := pf_age hR (xs (nI i + 1).toNatClampNeg) (xs (nI i + 2).toNatClampNeg)
  refine lv_aload_n hx hb dL_law_399 rfl (lv_at hl 1 rfl) ?_
  refine lv_aload_n hx hb dL_law_400 rfl (lv_at hl 0 rfl) ?_
  refine lv_iload_n hx hb dL_law_401 rfl (lv_at hl 3 rfl) ?_
  refine lv_iconst (v := 1) hx hb dL_law_402 (by decide) ?_
  refine lv_iadd hx hb dL_law_403 ?_
  refine va_sld hx hb hX hbl hbA J.2.2.2.2.2.2 (vp_k (k := 1) hi (by decide) hL) dL_law_404 ?_
  refine lv_aload_n hx hb dL_law_405 rfl (lv_at hl 0 rfl) ?_
  refine lv_iload_n hx hb dL_law_406 rfl (lv_at hl 3 rfl) ?_
  refine lv_iconst (v := 2) hx hb dL_law_407 (by decide) ?_
  refine lv_iadd hx hb dL_law_408 ?_
  refine va_sld hx hb hX hbl hbA J.2.2.2.2.2.2 (vp_k (k := 2) hi (by decide) hL) dL_law_409 ?_
  refine l_calli (l_runV (cn := 0) (As := [.int (xs (nI i + 1).toNatClampNeg), .int (xs (nI i + 2).toNatClampNeg)]) (rest := []) X J (c_X6_age l g qc _ _ (xs (nI i + 1).toNatClampNeg) (xs (nI i + 2).toNatClampNeg) e1) kv_X6_age ml_L_44 rfl (by decide) (eC_YearDeck g qc _) ⟨Nat.le_of_ble_eq_true rfl, Nat.le_of_ble_eq_true rfl⟩ ⟨Nat.le_of_ble_eq_true rfl, Nat.le_of_ble_eq_true rfl⟩ rfl rfl hl.1 (Nat.le_of_ble_eq_true rfl) dL_law_410) J (fun H locs J => ?_)
  have J := J.swap
  refine lv_aload_n hx hb dL_law_413 rfl (lv_at hl 2 rfl) ?_
  refine lv_aload_n hx hb dL_law_414 rfl (lv_at hl 0 rfl) ?_
  refine lv_iload_n hx hb dL_law_415 rfl (lv_at hl 3 rfl) ?_
  refine lv_iconst (v := 1) hx hb dL_law_416 (by decide) ?_
  refine lv_iadd hx hb dL_law_417 ?_
  refine va_sld hx hb hX hbl hbA J.2.2.2.2.2.2 (vp_k (k := 1) hi (by decide) hL) dL_law_418 ?_
  refine lv_aload_n hx hb dL_law_419 rfl (lv_at hl 0 rfl) ?_
  refine lv_iload_n hx hb dL_law_420 rfl (lv_at hl 3 rfl) ?_
  refine lv_iconst (v := 2) hx hb dL_law_421 (by decide) ?_
  refine lv_iadd hx hb dL_law_422 ?_
  refine va_sld hx hb hX hbl hbA J.2.2.2.2.2.2 (vp_k (k := 2) hi (by decide) hL) dL_law_423 ?_
  refine l_calli (l_runV (cn := 0) (As := [.int (xs (nI i + 1).toNatClampNeg), .int (xs (nI i + 2).toNatClampNeg)]) (rest := [.int r]) X J (c_X7_age l g qm _ _ (xs (nI i + 1).toNatClampNeg) (xs (nI i + 2).toNatClampNeg) e2) kv_X7_age ml_L_47 rfl (by decide) (eM_Model g qm _) ⟨Nat.le_of_ble_eq_true rfl, Nat.le_of_ble_eq_true rfl⟩ ⟨Nat.le_of_ble_eq_true rfl, Nat.le_of_ble_eq_true rfl⟩ rfl rfl hl.1 (Nat.le_of_ble_eq_true rfl) dL_law_424) J (fun H locs J => ?_)
  have J := J.swap
  refine lv_icmp_eq (tgt := 1140) hx hb dL_law_427 (by decide) (fun _ => ?_) (fun c9 => absurd rfl c9)
  exact kk σ τ H locs hR J
set_option maxRecDepth 100000 in
set_option maxHeartbeats 4000000 in
theorem lc_8 {p : Program} {l : Launch} {e : Env} {s : State} {m : MethodId} {below : List Frame} {meth : Method} {c : Code} {b L i : Nat} {xs : Nat → Int32} {g : Gh} {qc qm : Nat → Nat} {σ τ : St} {H : Heap} {locs : List Loc} {ls : Array Slot} {Q : State → Prop} (X : MX p s m #[Value.ref b] meth c cL_law 4 (some .boolean) RL) (hX : va_X b L xs s s.heap) (hbl : b < s.heap.size) (hL : L ≤ 384) (hi : i + 6 ≤ L) (J : LJ g (eC g qc) qc 23 (eM g qm) qm 22 s σ τ H locs) (hR : Rel σ τ) (hl : lv_has ls 4 [(0, .ref b), (1, .ref (qc 0)), (2, .ref (qm 0)), (3, .int (nI i))]) (kk : ∀ (σ' τ' : St) (H1 : Heap) (locs1 : List Loc), Rel σ' τ' → LJ g (eC g qc) qc 23 (eM g qm) qm 22 s σ' τ' H1 locs1 → W p l e room_1 s m #[Value.ref b] below meth c H1 locs1 100 10000 Q (F0 m 1140 ls [])) : W p l e room_1 s m #[Value.ref b] below meth c H locs 100 10000 Q (F0 m 432 ls []) := by
  have hx := X.1
  have hb := X.2.1
  have hbA : ¬ (fun a : Nat => s.heap.size ≤ a) b := Nat.not_le.mpr hbl
  obtain ⟨r, σ', τ', e1, e2, hR'⟩ := pf_sit hR (xs (nI i + 1).toNatClampNeg) (xs (nI i + 2).toNatClampNeg) (xs (nI i + 3).toNatClampNeg) (xs (nI i + 4).toNatClampNeg) (xs (nI i + 5).toNatClampNeg)
  refine lv_aload_n hx hb dL_law_432 rfl (lv_at hl 1 rfl) ?_
  refine lv_aload_n hx hb dL_law_433 rfl (lv_at hl 0 rfl) ?_
  refine lv_iload_n hx hb dL_law_434 rfl (lv_at hl 3 rfl) ?_
  refine lv_iconst (v := 1) hx hb dL_law_435 (by decide) ?_
  refine lv_iadd hx hb dL_law_436 ?_
  refine va_sld hx hb hX hbl hbA J.2.2.2.2.2.2 (vp_k (k := 1) hi (by decide) hL) dL_law_437 ?_
  refine lv_aload_n hx hb dL_law_438 rfl (lv_at hl 0 rfl) ?_
  refine lv_iload_n hx hb dL_law_439 rfl (lv_at hl 3 rfl) ?_
  refine lv_iconst (v := 2) hx hb dL_law_440 (by decide) ?_
  refine lv_iadd hx hb dL_law_441 ?_
  refine va_sld hx hb hX hbl hbA J.2.2.2.2.2.2 (vp_k (k := 2) hi (by decide) hL) dL_law_442 ?_
  refine lv_aload_n hx hb dL_law_443 rfl (lv_at hl 0 rfl) ?_
  refine lv_iload_n hx hb dL_law_444 rfl (lv_at hl 3 rfl) ?_
  refine lv_iconst (v := 3) hx hb dL_law_445 (by decide) ?_
  refine lv_iadd hx hb dL_law_446 ?_
  refine va_sld hx hb hX hbl hbA J.2.2.2.2.2.2 (vp_k (k := 3) hi (by decide) hL) dL_law_447 ?_
  refine lv_aload_n hx hb dL_law_448 rfl (lv_at hl 0 rfl) ?_
  refine lv_iload_n hx hb dL_law_449 rfl (lv_at hl 3 rfl) ?_
  refine lv_iconst (v := 4) hx hb dL_law_450 (by decide) ?_
  refine lv_iadd hx hb dL_law_451 ?_
  refine va_sld hx hb hX hbl hbA J.2.2.2.2.2.2 (vp_k (k := 4) hi (by decide) hL) dL_law_452 ?_
  refine lv_aload_n hx hb dL_law_453 rfl (lv_at hl 0 rfl) ?_
  refine lv_iload_n hx hb dL_law_454 rfl (lv_at hl 3 rfl) ?_
  refine lv_iconst (v := 5) hx hb dL_law_455 (by decide) ?_
  refine lv_iadd hx hb dL_law_456 ?_
  refine va_sld hx hb hX hbl hbA J.2.2.2.2.2.2 (vp_k (k := 5) hi (by decide) hL) dL_law_457 ?_
  refine l_calli (l_runV (cn := 0) (As := [.int (xs (nI i + 1).toNatClampNeg), .int (xs (nI i + 2).toNatClampNeg), .int (xs (nI i + 3).toNatClampNeg), .int (xs (nI i + 4).toNatClampNeg), .int (xs (nI i + 5).toNatClampNeg)]) (rest := []) X J (c_X6_sit l g qc _ _ (xs (nI i + 1).toNatClampNeg) (xs (nI i + 2).toNatClampNeg) (xs (nI i + 3).toNatClampNeg) (xs (nI i + 4).toNatClampNeg) (xs (nI i + 5).toNatClampNeg) e1) kv_X6_sit ml_L_48 rfl (by decide) (eC_YearDeck g qc _) ⟨Nat.le_of_ble_eq_true rfl, Nat.le_of_ble_eq_true rfl⟩ ⟨Nat.le_of_ble_eq_true rfl, Nat.le_of_ble_eq_true rfl⟩ rfl rfl hl.1 (Nat.le_of_ble_eq_true rfl) dL_law_458) J (fun H locs J => ?_)
  have J := J.swap
  refine lv_aload_n hx hb dL_law_461 rfl (lv_at hl 2 rfl) ?_
  refine lv_aload_n hx hb dL_law_462 rfl (lv_at hl 0 rfl) ?_
  refine lv_iload_n hx hb dL_law_463 rfl (lv_at hl 3 rfl) ?_
  refine lv_iconst (v := 1) hx hb dL_law_464 (by decide) ?_
  refine lv_iadd hx hb dL_law_465 ?_
  refine va_sld hx hb hX hbl hbA J.2.2.2.2.2.2 (vp_k (k := 1) hi (by decide) hL) dL_law_466 ?_
  refine lv_aload_n hx hb dL_law_467 rfl (lv_at hl 0 rfl) ?_
  refine lv_iload_n hx hb dL_law_468 rfl (lv_at hl 3 rfl) ?_
  refine lv_iconst (v := 2) hx hb dL_law_469 (by decide) ?_
  refine lv_iadd hx hb dL_law_470 ?_
  refine va_sld hx hb hX hbl hbA J.2.2.2.2.2.2 (vp_k (k := 2) hi (by decide) hL) dL_law_471 ?_
  refine lv_aload_n hx hb dL_law_472 rfl (lv_at hl 0 rfl) ?_
  refine lv_iload_n hx hb dL_law_473 rfl (lv_at hl 3 rfl) ?_
  refine lv_iconst (v := 3) hx hb dL_law_474 (by decide) ?_
  refine lv_iadd hx hb dL_law_475 ?_
  refine va_sld hx hb hX hbl hbA J.2.2.2.2.2.2 (vp_k (k := 3) hi (by decide) hL) dL_law_476 ?_
  refine lv_aload_n hx hb dL_law_477 rfl (lv_at hl 0 rfl) ?_
  refine lv_iload_n hx hb dL_law_478 rfl (lv_at hl 3 rfl) ?_
  refine lv_iconst (v := 4) hx hb dL_law_479 (by decide) ?_
  refine lv_iadd hx hb dL_law_480 ?_
  refine va_sld hx hb hX hbl hbA J.2.2.2.2.2.2 (vp_k (k := 4) hi (by decide) hL) dL_law_481 ?_
  refine lv_aload_n hx hb dL_law_482 rfl (lv_at hl 0 rfl) ?_
  refine lv_iload_n hx hb dL_law_483 rfl (lv_at hl 3 rfl) ?_
  refine lv_iconst (v := 5) hx hb dL_law_484 (by decide) ?_
  refine lv_iadd hx hb dL_law_485 ?_
  refine va_sld hx hb hX hbl hbA J.2.2.2.2.2.2 (vp_k (k := 5) hi (by decide) hL) dL_law_486 ?_
  refine l_calli (l_runV (cn := 0) (As := [.int (xs (nI i + 1).toNatClampNeg), .int (xs (nI i + 2).toNatClampNeg), .int (xs (nI i + 3).toNatClampNeg), .int (xs (nI i + 4).toNatClampNeg), .int (xs (nI i + 5).toNatClampNeg)]) (rest := [.int r]) X J (c_X7_sit l g qm _ _ (xs (nI i + 1).toNatClampNeg) (xs (nI i + 2).toNatClampNeg) (xs (nI i + 3).toNatClampNeg) (xs (nI i + 4).toNatClampNeg) (xs (nI i + 5).toNatClampNeg) e2) kv_X7_sit ml_L_52 rfl (by decide) (eM_Model g qm _) ⟨Nat.le_of_ble_eq_true rfl, Nat.le_of_ble_eq_true rfl⟩ ⟨Nat.le_of_ble_eq_true rfl, Nat.le_of_ble_eq_true rfl⟩ rfl rfl hl.1 (Nat.le_of_ble_eq_true rfl) dL_law_487) J (fun H locs J => ?_)
  have J := J.swap
  refine lv_icmp_eq (tgt := 1140) hx hb dL_law_490 (by decide) (fun _ => ?_) (fun c9 => absurd rfl c9)
  exact kk σ' τ' H locs hR' J
set_option maxRecDepth 100000 in
set_option maxHeartbeats 4000000 in
theorem lc_9 {p : Program} {l : Launch} {e : Env} {s : State} {m : MethodId} {below : List Frame} {meth : Method} {c : Code} {b L i : Nat} {xs : Nat → Int32} {g : Gh} {qc qm : Nat → Nat} {σ τ : St} {H : Heap} {locs : List Loc} {ls : Array Slot} {Q : State → Prop} (X : MX p s m #[Value.ref b] meth c cL_law 4 (some .boolean) RL) (hX : va_X b L xs s s.heap) (hbl : b < s.heap.size) (hL : L ≤ 384) (hi : i + 6 ≤ L) (J : LJ g (eC g qc) qc 23 (eM g qm) qm 22 s σ τ H locs) (hR : Rel σ τ) (hl : lv_has ls 4 [(0, .ref b), (1, .ref (qc 0)), (2, .ref (qm 0)), (3, .int (nI i))]) (kk : ∀ (σ' τ' : St) (H1 : Heap) (locs1 : List Loc), Rel σ' τ' → LJ g (eC g qc) qc 23 (eM g qm) qm 22 s σ' τ' H1 locs1 → W p l e room_1 s m #[Value.ref b] below meth c H1 locs1 100 10000 Q (F0 m 1140 ls [])) : W p l e room_1 s m #[Value.ref b] below meth c H locs 100 10000 Q (F0 m 495 ls []) := by
  have hx := X.1
  have hb := X.2.1
  have hbA : ¬ (fun a : Nat => s.heap.size ≤ a) b := Nat.not_le.mpr hbl
  obtain ⟨r, e1, e2⟩ := pf_way hR (xs (nI i + 1).toNatClampNeg) (xs (nI i + 2).toNatClampNeg)
  refine lv_aload_n hx hb dL_law_495 rfl (lv_at hl 1 rfl) ?_
  refine lv_aload_n hx hb dL_law_496 rfl (lv_at hl 0 rfl) ?_
  refine lv_iload_n hx hb dL_law_497 rfl (lv_at hl 3 rfl) ?_
  refine lv_iconst (v := 1) hx hb dL_law_498 (by decide) ?_
  refine lv_iadd hx hb dL_law_499 ?_
  refine va_sld hx hb hX hbl hbA J.2.2.2.2.2.2 (vp_k (k := 1) hi (by decide) hL) dL_law_500 ?_
  refine lv_aload_n hx hb dL_law_501 rfl (lv_at hl 0 rfl) ?_
  refine lv_iload_n hx hb dL_law_502 rfl (lv_at hl 3 rfl) ?_
  refine lv_iconst (v := 2) hx hb dL_law_503 (by decide) ?_
  refine lv_iadd hx hb dL_law_504 ?_
  refine va_sld hx hb hX hbl hbA J.2.2.2.2.2.2 (vp_k (k := 2) hi (by decide) hL) dL_law_505 ?_
  refine l_calli (l_runV (cn := 0) (As := [.int (xs (nI i + 1).toNatClampNeg), .int (xs (nI i + 2).toNatClampNeg)]) (rest := []) X J (c_X6_way l g qc _ _ (xs (nI i + 1).toNatClampNeg) (xs (nI i + 2).toNatClampNeg) e1) kv_X6_way ml_L_53 rfl (by decide) (eC_YearDeck g qc _) ⟨Nat.le_of_ble_eq_true rfl, Nat.le_of_ble_eq_true rfl⟩ ⟨Nat.le_of_ble_eq_true rfl, Nat.le_of_ble_eq_true rfl⟩ rfl rfl hl.1 (Nat.le_of_ble_eq_true rfl) dL_law_506) J (fun H locs J => ?_)
  have J := J.swap
  refine lv_aload_n hx hb dL_law_509 rfl (lv_at hl 2 rfl) ?_
  refine lv_aload_n hx hb dL_law_510 rfl (lv_at hl 0 rfl) ?_
  refine lv_iload_n hx hb dL_law_511 rfl (lv_at hl 3 rfl) ?_
  refine lv_iconst (v := 1) hx hb dL_law_512 (by decide) ?_
  refine lv_iadd hx hb dL_law_513 ?_
  refine va_sld hx hb hX hbl hbA J.2.2.2.2.2.2 (vp_k (k := 1) hi (by decide) hL) dL_law_514 ?_
  refine lv_aload_n hx hb dL_law_515 rfl (lv_at hl 0 rfl) ?_
  refine lv_iload_n hx hb dL_law_516 rfl (lv_at hl 3 rfl) ?_
  refine lv_iconst (v := 2) hx hb dL_law_517 (by decide) ?_
  refine lv_iadd hx hb dL_law_518 ?_
  refine va_sld hx hb hX hbl hbA J.2.2.2.2.2.2 (vp_k (k := 2) hi (by decide) hL) dL_law_519 ?_
  refine l_calli (l_runV (cn := 0) (As := [.int (xs (nI i + 1).toNatClampNeg), .int (xs (nI i + 2).toNatClampNeg)]) (rest := [.int r]) X J (c_X7_way l g qm _ _ (xs (nI i + 1).toNatClampNeg) (xs (nI i + 2).toNatClampNeg) e2) kv_X7_way ml_L_56 rfl (by decide) (eM_Model g qm _) ⟨Nat.le_of_ble_eq_true rfl, Nat.le_of_ble_eq_true rfl⟩ ⟨Nat.le_of_ble_eq_true rfl, Nat.le_of_ble_eq_true rfl⟩ rfl rfl hl.1 (Nat.le_of_ble_eq_true rfl) dL_law_520) J (fun H locs J => ?_)
  have J := J.swap
  refine lv_icmp_eq (tgt := 1140) hx hb dL_law_523 (by decide) (fun _ => ?_) (fun c9 => absurd rfl c9)
  exact kk σ τ H locs hR J
set_option maxRecDepth 100000 in
set_option maxHeartbeats 4000000 in
theorem lc_10 {p : Program} {l : Launch} {e : Env} {s : State} {m : MethodId} {below : List Frame} {meth : Method} {c : Code} {b L i : Nat} {xs : Nat → Int32} {g : Gh} {qc qm : Nat → Nat} {σ τ : St} {H : Heap} {locs : List Loc} {ls : Array Slot} {Q : State → Prop} (X : MX p s m #[Value.ref b] meth c cL_law 4 (some .boolean) RL) (hX : va_X b L xs s s.heap) (hbl : b < s.heap.size) (hL : L ≤ 384) (hi : i + 6 ≤ L) (J : LJ g (eC g qc) qc 23 (eM g qm) qm 22 s σ τ H locs) (hR : Rel σ τ) (hl : lv_has ls 4 [(0, .ref b), (1, .ref (qc 0)), (2, .ref (qm 0)), (3, .int (nI i))]) (kk : ∀ (σ' τ' : St) (H1 : Heap) (locs1 : List Loc), Rel σ' τ' → LJ g (eC g qc) qc 23 (eM g qm) qm 22 s σ' τ' H1 locs1 → W p l e room_1 s m #[Value.ref b] below meth c H1 locs1 100 10000 Q (F0 m 1140 ls [])) : W p l e room_1 s m #[Value.ref b] below meth c H locs 100 10000 Q (F0 m 528 ls []) := by
  have hx := X.1
  have hb := X.2.1
  have hbA : ¬ (fun a : Nat => s.heap.size ≤ a) b := Nat.not_le.mpr hbl
  obtain ⟨r, e1, e2⟩ := pf_spread hR (xs (nI i + 1).toNatClampNeg)
  refine lv_aload_n hx hb dL_law_528 rfl (lv_at hl 1 rfl) ?_
  refine lv_aload_n hx hb dL_law_529 rfl (lv_at hl 0 rfl) ?_
  refine lv_iload_n hx hb dL_law_530 rfl (lv_at hl 3 rfl) ?_
  refine lv_iconst (v := 1) hx hb dL_law_531 (by decide) ?_
  refine lv_iadd hx hb dL_law_532 ?_
  refine va_sld hx hb hX hbl hbA J.2.2.2.2.2.2 (vp_k (k := 1) hi (by decide) hL) dL_law_533 ?_
  refine l_calli (l_runV (cn := 0) (As := [.int (xs (nI i + 1).toNatClampNeg)]) (rest := []) X J (c_X6_spread l g qc _ _ (xs (nI i + 1).toNatClampNeg) e1) kv_X6_spread ml_L_57 rfl (by decide) (eC_YearDeck g qc _) ⟨Nat.le_of_ble_eq_true rfl, Nat.le_of_ble_eq_true rfl⟩ ⟨Nat.le_of_ble_eq_true rfl, Nat.le_of_ble_eq_true rfl⟩ rfl rfl hl.1 (Nat.le_of_ble_eq_true rfl) dL_law_534) J (fun H locs J => ?_)
  have J := J.swap
  refine lv_aload_n hx hb dL_law_537 rfl (lv_at hl 2 rfl) ?_
  refine lv_aload_n hx hb dL_law_538 rfl (lv_at hl 0 rfl) ?_
  refine lv_iload_n hx hb dL_law_539 rfl (lv_at hl 3 rfl) ?_
  refine lv_iconst (v := 1) hx hb dL_law_540 (by decide) ?_
  refine lv_iadd hx hb dL_law_541 ?_
  refine va_sld hx hb hX hbl hbA J.2.2.2.2.2.2 (vp_k (k := 1) hi (by decide) hL) dL_law_542 ?_
  refine l_calli (l_runV (cn := 0) (As := [.int (xs (nI i + 1).toNatClampNeg)]) (rest := [.int r]) X J (c_X7_spread l g qm _ _ (xs (nI i + 1).toNatClampNeg) e2) kv_X7_spread ml_L_60 rfl (by decide) (eM_Model g qm _) ⟨Nat.le_of_ble_eq_true rfl, Nat.le_of_ble_eq_true rfl⟩ ⟨Nat.le_of_ble_eq_true rfl, Nat.le_of_ble_eq_true rfl⟩ rfl rfl hl.1 (Nat.le_of_ble_eq_true rfl) dL_law_543) J (fun H locs J => ?_)
  have J := J.swap
  refine lv_icmp_eq (tgt := 1140) hx hb dL_law_546 (by decide) (fun _ => ?_) (fun c9 => absurd rfl c9)
  exact kk σ τ H locs hR J
set_option maxRecDepth 100000 in
set_option maxHeartbeats 4000000 in
theorem lc_11 {p : Program} {l : Launch} {e : Env} {s : State} {m : MethodId} {below : List Frame} {meth : Method} {c : Code} {b L i : Nat} {xs : Nat → Int32} {g : Gh} {qc qm : Nat → Nat} {σ τ : St} {H : Heap} {locs : List Loc} {ls : Array Slot} {Q : State → Prop} (X : MX p s m #[Value.ref b] meth c cL_law 4 (some .boolean) RL) (hX : va_X b L xs s s.heap) (hbl : b < s.heap.size) (hL : L ≤ 384) (hi : i + 6 ≤ L) (J : LJ g (eC g qc) qc 23 (eM g qm) qm 22 s σ τ H locs) (hR : Rel σ τ) (hl : lv_has ls 4 [(0, .ref b), (1, .ref (qc 0)), (2, .ref (qm 0)), (3, .int (nI i))]) (kk : ∀ (σ' τ' : St) (H1 : Heap) (locs1 : List Loc), Rel σ' τ' → LJ g (eC g qc) qc 23 (eM g qm) qm 22 s σ' τ' H1 locs1 → W p l e room_1 s m #[Value.ref b] below meth c H1 locs1 100 10000 Q (F0 m 1140 ls [])) : W p l e room_1 s m #[Value.ref b] below meth c H locs 100 10000 Q (F0 m 551 ls []) := by
  have hx := X.1
  have hb := X.2.1
  have hbA : ¬ (fun a : Nat => s.heap.size ≤ a) b := Nat.not_le.mpr hbl
  obtain ⟨r, e1, e2⟩ := pf_agree hR (xs (nI i + 1).toNatClampNeg) (xs (nI i + 2).toNatClampNeg) (xs (nI i + 3).toNatClampNeg)
  refine lv_aload_n hx hb dL_law_551 rfl (lv_at hl 1 rfl) ?_
  refine lv_aload_n hx hb dL_law_552 rfl (lv_at hl 0 rfl) ?_
  refine lv_iload_n hx hb dL_law_553 rfl (lv_at hl 3 rfl) ?_
  refine lv_iconst (v := 1) hx hb dL_law_554 (by decide) ?_
  refine lv_iadd hx hb dL_law_555 ?_
  refine va_sld hx hb hX hbl hbA J.2.2.2.2.2.2 (vp_k (k := 1) hi (by decide) hL) dL_law_556 ?_
  refine lv_aload_n hx hb dL_law_557 rfl (lv_at hl 0 rfl) ?_
  refine lv_iload_n hx hb dL_law_558 rfl (lv_at hl 3 rfl) ?_
  refine lv_iconst (v := 2) hx hb dL_law_559 (by decide) ?_
  refine lv_iadd hx hb dL_law_560 ?_
  refine va_sld hx hb hX hbl hbA J.2.2.2.2.2.2 (vp_k (k := 2) hi (by decide) hL) dL_law_561 ?_
  refine lv_aload_n hx hb dL_law_562 rfl (lv_at hl 0 rfl) ?_
  refine lv_iload_n hx hb dL_law_563 rfl (lv_at hl 3 rfl) ?_
  refine lv_iconst (v := 3) hx hb dL_law_564 (by decide) ?_
  refine lv_iadd hx hb dL_law_565 ?_
  refine va_sld hx hb hX hbl hbA J.2.2.2.2.2.2 (vp_k (k := 3) hi (by decide) hL) dL_law_566 ?_
  refine l_calli (l_runV (cn := 0) (As := [.int (xs (nI i + 1).toNatClampNeg), .int (xs (nI i + 2).toNatClampNeg), .int (xs (nI i + 3).toNatClampNeg)]) (rest := []) X J (c_X6_agree l g qc _ _ (xs (nI i + 1).toNatClampNeg) (xs (nI i + 2).toNatClampNeg) (xs (nI i + 3).toNatClampNeg) e1) kv_X6_agree ml_L_61 rfl (by decide) (eC_YearDeck g qc _) ⟨Nat.le_of_ble_eq_true rfl, Nat.le_of_ble_eq_true rfl⟩ ⟨Nat.le_of_ble_eq_true rfl, Nat.le_of_ble_eq_true rfl⟩ rfl rfl hl.1 (Nat.le_of_ble_eq_true rfl) dL_law_567) J (fun H locs J => ?_)
  have J := J.swap
  refine lv_aload_n hx hb dL_law_570 rfl (lv_at hl 2 rfl) ?_
  refine lv_aload_n hx hb dL_law_571 rfl (lv_at hl 0 rfl) ?_
  refine lv_iload_n hx hb dL_law_572 rfl (lv_at hl 3 rfl) ?_
  refine lv_iconst (v := 1) hx hb dL_law_573 (by decide) ?_
  refine lv_iadd hx hb dL_law_574 ?_
  refine va_sld hx hb hX hbl hbA J.2.2.2.2.2.2 (vp_k (k := 1) hi (by decide) hL) dL_law_575 ?_
  refine lv_aload_n hx hb dL_law_576 rfl (lv_at hl 0 rfl) ?_
  refine lv_iload_n hx hb dL_law_577 rfl (lv_at hl 3 rfl) ?_
  refine lv_iconst (v := 2) hx hb dL_law_578 (by decide) ?_
  refine lv_iadd hx hb dL_law_579 ?_
  refine va_sld hx hb hX hbl hbA J.2.2.2.2.2.2 (vp_k (k := 2) hi (by decide) hL) dL_law_580 ?_
  refine lv_aload_n hx hb dL_law_581 rfl (lv_at hl 0 rfl) ?_
  refine lv_iload_n hx hb dL_law_582 rfl (lv_at hl 3 rfl) ?_
  refine lv_iconst (v := 3) hx hb dL_law_583 (by decide) ?_
  refine lv_iadd hx hb dL_law_584 ?_
  refine va_sld hx hb hX hbl hbA J.2.2.2.2.2.2 (vp_k (k := 3) hi (by decide) hL) dL_law_585 ?_
  refine l_calli (l_runV (cn := 0) (As := [.int (xs (nI i + 1).toNatClampNeg), .int (xs (nI i + 2).toNatClampNeg), .int (xs (nI i + 3).toNatClampNeg)]) (rest := [.int r]) X J (c_X7_agree l g qm _ _ (xs (nI i + 1).toNatClampNeg) (xs (nI i + 2).toNatClampNeg) (xs (nI i + 3).toNatClampNeg) e2) kv_X7_agree ml_L_65 rfl (by decide) (eM_Model g qm _) ⟨Nat.le_of_ble_eq_true rfl, Nat.le_of_ble_eq_true rfl⟩ ⟨Nat.le_of_ble_eq_true rfl, Nat.le_of_ble_eq_true rfl⟩ rfl rfl hl.1 (Nat.le_of_ble_eq_true rfl) dL_law_586) J (fun H locs J => ?_)
  have J := J.swap
  refine lv_icmp_eq (tgt := 1140) hx hb dL_law_589 (by decide) (fun _ => ?_) (fun c9 => absurd rfl c9)
  exact kk σ τ H locs hR J
