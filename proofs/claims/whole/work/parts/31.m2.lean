/-! YearDeckModel.ride(IIII)I -/
def D_X7_ride_223 (σ : St) : Option (Int32 × St) := (D_X7_refused (up2 σ 0 22 (0 : Int32)) ((up2 σ 0 22 (0 : Int32)) 0 4)).bind fun y128 => some (y128.1, y128.2)
set_option maxRecDepth 100000 in
set_option maxHeartbeats 4000000 in
theorem w_X7_ride_223 {p : Program} {l : Launch} {e : Env} {s : State} {m : MethodId} {args : Array Value} {below : List Frame} {meth : Method} {c : Code} (g : Gh) (q : Nat → Nat) (X : MX p s m args meth c cX7_ride 7 (some .int) RX7) {rr : (Int32 × St)} (σ : St)  (hD : D_X7_ride_223 σ = some rr) (H : Heap) (locs : List Loc) (ls : Array Slot) (I : IM g q s σ H locs) (hl : lv_has ls 7 [(0, .ref (q 0))]) : W p l e (rmD 5) s m args below meth c H locs 0 0 (MQ below (QI g (eM g q) q 22 rr.1 rr.2 s.heap.size) args s 0 0 (AQ q 22 s.heap.size)) (F0 m 223 ls []) := by
  have hx := X.1
  have hb := X.2.1
  unfold D_X7_ride_223 at hD
  refine lv_aload_n hx hb dX7_ride_223 rfl (lv_at hl 0 rfl) ?_
  refine lv_iconst (v := 0) hx hb dX7_ride_224 (by decide) ?_
  refine p_Model_readings X I fl_X7_155 dX7_ride_225 (fun H locs I => ?_)
  refine lv_aload_n hx hb dX7_ride_228 rfl (lv_at hl 0 rfl) ?_
  refine lv_aload_n hx hb dX7_ride_229 rfl (lv_at hl 0 rfl) ?_
  refine g_Model_riders X I fl_X7_91 dX7_ride_230 ?_
  obtain ⟨y128, hy128, hD⟩ := bd_s hD
  refine r_calli (r_runV (As := [.int ((up2 σ 0 22 (0 : Int32)) 0 4)]) (rest := []) X I (c_X7_refused l g q _ (up2 σ 0 22 (0 : Int32)) ((up2 σ 0 22 (0 : Int32)) 0 4) hy128) kv_X7_refused ml_X7_140 rfl (by decide) (eM_Model g q _) ⟨Nat.le_of_ble_eq_true rfl, Nat.le_of_ble_eq_true rfl⟩ ⟨Nat.zero_le _, Nat.zero_le _⟩ rfl rfl hl.1 (Nat.le_of_ble_eq_true rfl) dX7_ride_233) I (fun H locs I => ?_)
  exact r_iret2 X I hD dX7_ride_236
def D_X7_ride_138b (σ : St) (rc138 : St → Int32 → Option (Int32 × St)) (v6 : Int32) : Option (Int32 × St) := if (σ 0 4) ≤ v6 then D_X7_ride_223 σ else gd (inb v6 4) (gd (inb v6 4) (gd (inb v6 4) (gd (inb v6 4) (gd (inb v6 4) (gd (inb v6 4) (gd (inb v6 4) (gd (inb v6 4) (gd (inb v6 4) (gd (inb v6 4) (rc138 (up2 (up2 (up2 (up2 (up2 σ 2 v6.toNatClampNeg (σ 8 v6.toNatClampNeg)) 3 v6.toNatClampNeg ((up2 σ 2 v6.toNatClampNeg (σ 8 v6.toNatClampNeg)) 9 v6.toNatClampNeg)) 4 v6.toNatClampNeg ((up2 (up2 σ 2 v6.toNatClampNeg (σ 8 v6.toNatClampNeg)) 3 v6.toNatClampNeg ((up2 σ 2 v6.toNatClampNeg (σ 8 v6.toNatClampNeg)) 9 v6.toNatClampNeg)) 10 v6.toNatClampNeg)) 5 v6.toNatClampNeg ((up2 (up2 (up2 σ 2 v6.toNatClampNeg (σ 8 v6.toNatClampNeg)) 3 v6.toNatClampNeg ((up2 σ 2 v6.toNatClampNeg (σ 8 v6.toNatClampNeg)) 9 v6.toNatClampNeg)) 4 v6.toNatClampNeg ((up2 (up2 σ 2 v6.toNatClampNeg (σ 8 v6.toNatClampNeg)) 3 v6.toNatClampNeg ((up2 σ 2 v6.toNatClampNeg (σ 8 v6.toNatClampNeg)) 9 v6.toNatClampNeg)) 10 v6.toNatClampNeg)) 11 v6.toNatClampNeg)) 6 v6.toNatClampNeg ((up2 (up2 (up2 (up2 σ 2 v6.toNatClampNeg (σ 8 v6.toNatClampNeg)) 3 v6.toNatClampNeg ((up2 σ 2 v6.toNatClampNeg (σ 8 v6.toNatClampNeg)) 9 v6.toNatClampNeg)) 4 v6.toNatClampNeg ((up2 (up2 σ 2 v6.toNatClampNeg (σ 8 v6.toNatClampNeg)) 3 v6.toNatClampNeg ((up2 σ 2 v6.toNatClampNeg (σ 8 v6.toNatClampNeg)) 9 v6.toNatClampNeg)) 10 v6.toNatClampNeg)) 5 v6.toNatClampNeg ((up2 (up2 (up2 σ 2 v6.toNatClampNeg (σ 8 v6.toNatClampNeg)) 3 v6.toNatClampNeg ((up2 σ 2 v6.toNatClampNeg (σ 8 v6.toNatClampNeg)) 9 v6.toNatClampNeg)) 4 v6.toNatClampNeg ((up2 (up2 σ 2 v6.toNatClampNeg (σ 8 v6.toNatClampNeg)) 3 v6.toNatClampNeg ((up2 σ 2 v6.toNatClampNeg (σ 8 v6.toNatClampNeg)) 9 v6.toNatClampNeg)) 10 v6.toNatClampNeg)) 11 v6.toNatClampNeg)) 12 v6.toNatClampNeg)) (v6 + (1 : Int32))))))))))))
set_option maxRecDepth 100000 in
set_option maxHeartbeats 4000000 in
theorem w_X7_ride_138b {p : Program} {l : Launch} {e : Env} {s : State} {m : MethodId} {args : Array Value} {below : List Frame} {meth : Method} {c : Code} (g : Gh) (q : Nat → Nat) (X : MX p s m args meth c cX7_ride 7 (some .int) RX7) {rr : (Int32 × St)} (σ : St)  (v6 : Int32) (rc138 : St → Int32 → Option (Int32 × St)) (hrc138 : ∀ (σ' : St) (v6' : Int32), rc138 σ' v6' = some rr → ∀ (H : Heap) (locs : List Loc) (ls : Array Slot), IM g q s σ' H locs → lv_has ls 7 [(0, .ref (q 0)), (6, .int v6')] → W p l e (rmD 5) s m args below meth c H locs 0 0 (MQ below (QI g (eM g q) q 22 rr.1 rr.2 s.heap.size) args s 0 0 (AQ q 22 s.heap.size)) (F0 m 138 ls [])) (hD : D_X7_ride_138b σ rc138 v6 = some rr) (H : Heap) (locs : List Loc) (ls : Array Slot) (I : IM g q s σ H locs) (hl : lv_has ls 7 [(0, .ref (q 0)), (6, .int v6)]) : W p l e (rmD 5) s m args below meth c H locs 0 0 (MQ below (QI g (eM g q) q 22 rr.1 rr.2 s.heap.size) args s 0 0 (AQ q 22 s.heap.size)) (F0 m 138 ls []) := by
  have hx := X.1
  have hb := X.2.1
  unfold D_X7_ride_138b at hD
  refine lv_iload hx hb dX7_ride_138 (lv_at hl 1 rfl) ?_
  refine lv_aload_n hx hb dX7_ride_140 rfl (lv_at hl 0 rfl) ?_
  refine g_Model_riders X I fl_X7_91 dX7_ride_141 ?_
  refine lv_icmp_ge (tgt := 223) hx hb dX7_ride_144 (by decide) (fun hc79 => ?_) (fun hc79 => ?_)
  · have hD := ite_p hc79 hD
    exact w_X7_ride_223 g q X σ hD _ _ _ I (lv_sub hl [0] rfl)
  · have hD := ite_n hc79 hD
    refine lv_aload_n hx hb dX7_ride_147 rfl (lv_at hl 0 rfl) ?_
    refine g_Model_kindOf X I fl_X7_13 dX7_ride_148 ?_
    refine lv_iload hx hb dX7_ride_151 (lv_at hl 1 rfl) ?_
    refine lv_aload_n hx hb dX7_ride_153 rfl (lv_at hl 0 rfl) ?_
    refine g_Model_readKind X I fl_X7_31 dX7_ride_154 ?_
    refine lv_iload hx hb dX7_ride_157 (lv_at hl 1 rfl) ?_
    obtain ⟨hg86, hD⟩ := gd_s hD
    refine r_iald X I (by decide) ((eMa_8 g q) _) hg86 dX7_ride_159 ?_
    obtain ⟨hg87, hD⟩ := gd_s hD
    refine r_iast (eM_loc g q) X I (by decide) (eMa_2 g q) hg87 dX7_ride_160 (fun H locs I => ?_)
    refine lv_aload_n hx hb dX7_ride_161 rfl (lv_at hl 0 rfl) ?_
    refine g_Model_onOf X I fl_X7_16 dX7_ride_162 ?_
    refine lv_iload hx hb dX7_ride_165 (lv_at hl 1 rfl) ?_
    refine lv_aload_n hx hb dX7_ride_167 rfl (lv_at hl 0 rfl) ?_
    refine g_Model_readOn X I fl_X7_34 dX7_ride_168 ?_
    refine lv_iload hx hb dX7_ride_171 (lv_at hl 1 rfl) ?_
    obtain ⟨hg94, hD⟩ := gd_s hD
    refine r_iald X I (by decide) ((eMa_9 g q) _) hg94 dX7_ride_173 ?_
    obtain ⟨hg95, hD⟩ := gd_s hD
    refine r_iast (eM_loc g q) X I (by decide) (eMa_3 g q) hg95 dX7_ride_174 (fun H locs I => ?_)
    refine lv_aload_n hx hb dX7_ride_175 rfl (lv_at hl 0 rfl) ?_
    refine g_Model_offOf X I fl_X7_19 dX7_ride_176 ?_
    refine lv_iload hx hb dX7_ride_179 (lv_at hl 1 rfl) ?_
    refine lv_aload_n hx hb dX7_ride_181 rfl (lv_at hl 0 rfl) ?_
    refine g_Model_readOff X I fl_X7_37 dX7_ride_182 ?_
    refine lv_iload hx hb dX7_ride_185 (lv_at hl 1 rfl) ?_
    obtain ⟨hg102, hD⟩ := gd_s hD
    refine r_iald X I (by decide) ((eMa_10 g q) _) hg102 dX7_ride_187 ?_
    obtain ⟨hg103, hD⟩ := gd_s hD
    refine r_iast (eM_loc g q) X I (by decide) (eMa_4 g q) hg103 dX7_ride_188 (fun H locs I => ?_)
    refine lv_aload_n hx hb dX7_ride_189 rfl (lv_at hl 0 rfl) ?_
    refine g_Model_ageOf X I fl_X7_22 dX7_ride_190 ?_
    refine lv_iload hx hb dX7_ride_193 (lv_at hl 1 rfl) ?_
    refine lv_aload_n hx hb dX7_ride_195 rfl (lv_at hl 0 rfl) ?_
    refine g_Model_readAge X I fl_X7_40 dX7_ride_196 ?_
    refine lv_iload hx hb dX7_ride_199 (lv_at hl 1 rfl) ?_
    obtain ⟨hg110, hD⟩ := gd_s hD
    refine r_iald X I (by decide) ((eMa_11 g q) _) hg110 dX7_ride_201 ?_
    obtain ⟨hg111, hD⟩ := gd_s hD
    refine r_iast (eM_loc g q) X I (by decide) (eMa_5 g q) hg111 dX7_ride_202 (fun H locs I => ?_)
    refine lv_aload_n hx hb dX7_ride_203 rfl (lv_at hl 0 rfl) ?_
    refine g_Model_wantOf X I fl_X7_25 dX7_ride_204 ?_
    refine lv_iload hx hb dX7_ride_207 (lv_at hl 1 rfl) ?_
    refine lv_aload_n hx hb dX7_ride_209 rfl (lv_at hl 0 rfl) ?_
    refine g_Model_readWant X I fl_X7_43 dX7_ride_210 ?_
    refine lv_iload hx hb dX7_ride_213 (lv_at hl 1 rfl) ?_
    obtain ⟨hg118, hD⟩ := gd_s hD
    refine r_iald X I (by decide) ((eMa_12 g q) _) hg118 dX7_ride_215 ?_
    obtain ⟨hg119, hD⟩ := gd_s hD
    refine r_iast (eM_loc g q) X I (by decide) (eMa_6 g q) hg119 dX7_ride_216 (fun H locs I => ?_)
    refine lv_iinc (v := v6 + (1 : Int32)) (lv' := [(6, .int (v6 + (1 : Int32))), (0, .ref (q 0))]) hx hb dX7_ride_217 hl (k := 1) rfl rfl (by decide) rfl (fun ls hl => ?_)
    refine lv_goto (tgt := 138) hx hb dX7_ride_220 (by decide) ?_
    exact hrc138 (up2 (up2 (up2 (up2 (up2 σ 2 v6.toNatClampNeg (σ 8 v6.toNatClampNeg)) 3 v6.toNatClampNeg ((up2 σ 2 v6.toNatClampNeg (σ 8 v6.toNatClampNeg)) 9 v6.toNatClampNeg)) 4 v6.toNatClampNeg ((up2 (up2 σ 2 v6.toNatClampNeg (σ 8 v6.toNatClampNeg)) 3 v6.toNatClampNeg ((up2 σ 2 v6.toNatClampNeg (σ 8 v6.toNatClampNeg)) 9 v6.toNatClampNeg)) 10 v6.toNatClampNeg)) 5 v6.toNatClampNeg ((up2 (up2 (up2 σ 2 v6.toNatClampNeg (σ 8 v6.toNatClampNeg)) 3 v6.toNatClampNeg ((up2 σ 2 v6.toNatClampNeg (σ 8 v6.toNatClampNeg)) 9 v6.toNatClampNeg)) 4 v6.toNatClampNeg ((up2 (up2 σ 2 v6.toNatClampNeg (σ 8 v6.toNatClampNeg)) 3 v6.toNatClampNeg ((up2 σ 2 v6.toNatClampNeg (σ 8 v6.toNatClampNeg)) 9 v6.toNatClampNeg)) 10 v6.toNatClampNeg)) 11 v6.toNatClampNeg)) 6 v6.toNatClampNeg ((up2 (up2 (up2 (up2 σ 2 v6.toNatClampNeg (σ 8 v6.toNatClampNeg)) 3 v6.toNatClampNeg ((up2 σ 2 v6.toNatClampNeg (σ 8 v6.toNatClampNeg)) 9 v6.toNatClampNeg)) 4 v6.toNatClampNeg ((up2 (up2 σ 2 v6.toNatClampNeg (σ 8 v6.toNatClampNeg)) 3 v6.toNatClampNeg ((up2 σ 2 v6.toNatClampNeg (σ 8 v6.toNatClampNeg)) 9 v6.toNatClampNeg)) 10 v6.toNatClampNeg)) 5 v6.toNatClampNeg ((up2 (up2 (up2 σ 2 v6.toNatClampNeg (σ 8 v6.toNatClampNeg)) 3 v6.toNatClampNeg ((up2 σ 2 v6.toNatClampNeg (σ 8 v6.toNatClampNeg)) 9 v6.toNatClampNeg)) 4 v6.toNatClampNeg ((up2 (up2 σ 2 v6.toNatClampNeg (σ 8 v6.toNatClampNeg)) 3 v6.toNatClampNeg ((up2 σ 2 v6.toNatClampNeg (σ 8 v6.toNatClampNeg)) 9 v6.toNatClampNeg)) 10 v6.toNatClampNeg)) 11 v6.toNatClampNeg)) 12 v6.toNatClampNeg)) (v6 + (1 : Int32)) hD _ _ _ I (lv_sub hl [1, 0] rfl)
def D_X7_ride_138  : Nat → St → Int32 → Option (Int32 × St)
  | 0 => fun _ _ => none
  | n + 1 => fun σ v6 => D_X7_ride_138b σ (D_X7_ride_138 n) v6
set_option maxRecDepth 100000 in
set_option maxHeartbeats 4000000 in
theorem w_X7_ride_138 {p : Program} {l : Launch} {e : Env} {s : State} {m : MethodId} {args : Array Value} {below : List Frame} {meth : Method} {c : Code} (g : Gh) (q : Nat → Nat) (X : MX p s m args meth c cX7_ride 7 (some .int) RX7) {rr : (Int32 × St)}  : ∀ (n : Nat) (σ : St) (v6 : Int32), D_X7_ride_138 n σ v6 = some rr → ∀ (H : Heap) (locs : List Loc) (ls : Array Slot), IM g q s σ H locs → lv_has ls 7 [(0, .ref (q 0)), (6, .int v6)] → W p l e (rmD 5) s m args below meth c H locs 0 0 (MQ below (QI g (eM g q) q 22 rr.1 rr.2 s.heap.size) args s 0 0 (AQ q 22 s.heap.size)) (F0 m 138 ls []) := by
  intro n
  induction n with
  | zero =>
    intro σ v6 hD H locs ls I hl
    cases hD
  | succ n ih =>
    intro σ v6 hD H locs ls I hl
    exact w_X7_ride_138b g q X σ v6 _ ih hD H locs ls I hl
def D_X7_ride_135 (σ : St) : Option (Int32 × St) := D_X7_ride_138 FU σ (0 : Int32)
set_option maxRecDepth 100000 in
set_option maxHeartbeats 4000000 in
theorem w_X7_ride_135 {p : Program} {l : Launch} {e : Env} {s : State} {m : MethodId} {args : Array Value} {below : List Frame} {meth : Method} {c : Code} (g : Gh) (q : Nat → Nat) (X : MX p s m args meth c cX7_ride 7 (some .int) RX7) {rr : (Int32 × St)} (σ : St)  (hD : D_X7_ride_135 σ = some rr) (H : Heap) (locs : List Loc) (ls : Array Slot) (I : IM g q s σ H locs) (hl : lv_has ls 7 [(0, .ref (q 0))]) : W p l e (rmD 5) s m args below meth c H locs 0 0 (MQ below (QI g (eM g q) q 22 rr.1 rr.2 s.heap.size) args s 0 0 (AQ q 22 s.heap.size)) (F0 m 135 ls []) := by
  have hx := X.1
  have hb := X.2.1
  unfold D_X7_ride_135 at hD
  refine lv_iconst (v := 0) hx hb dX7_ride_135 (by decide) ?_
  refine lv_istore (lv' := [(6, .int (0 : Int32)), (0, .ref (q 0))]) hx hb dX7_ride_136 hl (by decide) rfl (fun ls hl => ?_)
  exact w_X7_ride_138 g q X FU σ (0 : Int32) hD _ _ _ I (lv_sub hl [1, 0] rfl)
def D_X7_ride_106b (σ : St) (rc106 : St → Int32 → Option (Int32 × St)) (v6 : Int32) : Option (Int32 × St) := if (σ 0 2) ≤ v6 then D_X7_ride_135 σ else gd (inb v6 5) (gd (inb v6 5) (rc106 (up2 σ 1 v6.toNatClampNeg (σ 7 v6.toNatClampNeg)) (v6 + (1 : Int32))))
set_option maxRecDepth 100000 in
set_option maxHeartbeats 4000000 in
theorem w_X7_ride_106b {p : Program} {l : Launch} {e : Env} {s : State} {m : MethodId} {args : Array Value} {below : List Frame} {meth : Method} {c : Code} (g : Gh) (q : Nat → Nat) (X : MX p s m args meth c cX7_ride 7 (some .int) RX7) {rr : (Int32 × St)} (σ : St)  (v6 : Int32) (rc106 : St → Int32 → Option (Int32 × St)) (hrc106 : ∀ (σ' : St) (v6' : Int32), rc106 σ' v6' = some rr → ∀ (H : Heap) (locs : List Loc) (ls : Array Slot), IM g q s σ' H locs → lv_has ls 7 [(0, .ref (q 0)), (6, .int v6')] → W p l e (rmD 5) s m args below meth c H locs 0 0 (MQ below (QI g (eM g q) q 22 rr.1 rr.2 s.heap.size) args s 0 0 (AQ q 22 s.heap.size)) (F0 m 106 ls [])) (hD : D_X7_ride_106b σ rc106 v6 = some rr) (H : Heap) (locs : List Loc) (ls : Array Slot) (I : IM g q s σ H locs) (hl : lv_has ls 7 [(0, .ref (q 0)), (6, .int v6)]) : W p l e (rmD 5) s m args below meth c H locs 0 0 (MQ below (QI g (eM g q) q 22 rr.1 rr.2 s.heap.size) args s 0 0 (AQ q 22 s.heap.size)) (F0 m 106 ls []) := by
  have hx := X.1
  have hb := X.2.1
  unfold D_X7_ride_106b at hD
  refine lv_iload hx hb dX7_ride_106 (lv_at hl 1 rfl) ?_
  refine lv_aload_n hx hb dX7_ride_108 rfl (lv_at hl 0 rfl) ?_
  refine g_Model_sections X I fl_X7_84 dX7_ride_109 ?_
  refine lv_icmp_ge (tgt := 135) hx hb dX7_ride_112 (by decide) (fun hc63 => ?_) (fun hc63 => ?_)
  · have hD := ite_p hc63 hD
    exact w_X7_ride_135 g q X σ hD _ _ _ I (lv_sub hl [0] rfl)
  · have hD := ite_n hc63 hD
    refine lv_aload_n hx hb dX7_ride_115 rfl (lv_at hl 0 rfl) ?_
    refine g_Model_slopeOf X I fl_X7_7 dX7_ride_116 ?_
    refine lv_iload hx hb dX7_ride_119 (lv_at hl 1 rfl) ?_
    refine lv_aload_n hx hb dX7_ride_121 rfl (lv_at hl 0 rfl) ?_
    refine g_Model_readSlope X I fl_X7_28 dX7_ride_122 ?_
    refine lv_iload hx hb dX7_ride_125 (lv_at hl 1 rfl) ?_
    obtain ⟨hg70, hD⟩ := gd_s hD
    refine r_iald X I (by decide) ((eMa_7 g q) _) hg70 dX7_ride_127 ?_
    obtain ⟨hg71, hD⟩ := gd_s hD
    refine r_iast (eM_loc g q) X I (by decide) (eMa_1 g q) hg71 dX7_ride_128 (fun H locs I => ?_)
    refine lv_iinc (v := v6 + (1 : Int32)) (lv' := [(6, .int (v6 + (1 : Int32))), (0, .ref (q 0))]) hx hb dX7_ride_129 hl (k := 1) rfl rfl (by decide) rfl (fun ls hl => ?_)
    refine lv_goto (tgt := 106) hx hb dX7_ride_132 (by decide) ?_
    exact hrc106 (up2 σ 1 v6.toNatClampNeg (σ 7 v6.toNatClampNeg)) (v6 + (1 : Int32)) hD _ _ _ I (lv_sub hl [1, 0] rfl)
def D_X7_ride_106  : Nat → St → Int32 → Option (Int32 × St)
  | 0 => fun _ _ => none
  | n + 1 => fun σ v6 => D_X7_ride_106b σ (D_X7_ride_106 n) v6
set_option maxRecDepth 100000 in
set_option maxHeartbeats 4000000 in
theorem w_X7_ride_106 {p : Program} {l : Launch} {e : Env} {s : State} {m : MethodId} {args : Array Value} {below : List Frame} {meth : Method} {c : Code} (g : Gh) (q : Nat → Nat) (X : MX p s m args meth c cX7_ride 7 (some .int) RX7) {rr : (Int32 × St)}  : ∀ (n : Nat) (σ : St) (v6 : Int32), D_X7_ride_106 n σ v6 = some rr → ∀ (H : Heap) (locs : List Loc) (ls : Array Slot), IM g q s σ H locs → lv_has ls 7 [(0, .ref (q 0)), (6, .int v6)] → W p l e (rmD 5) s m args below meth c H locs 0 0 (MQ below (QI g (eM g q) q 22 rr.1 rr.2 s.heap.size) args s 0 0 (AQ q 22 s.heap.size)) (F0 m 106 ls []) := by
  intro n
  induction n with
  | zero =>
    intro σ v6 hD H locs ls I hl
    cases hD
  | succ n ih =>
    intro σ v6 hD H locs ls I hl
    exact w_X7_ride_106b g q X σ v6 _ ih hD H locs ls I hl
def D_X7_ride (σ : St) (p1 : Int32) (p2 : Int32) (p3 : Int32) (p4 : Int32) : Option (Int32 × St) := (D_X7_noSheet σ p1).bind fun y2 => if y2 = 0 then (D_X7_in σ p2.toInt64 (0 : Int64) (2 : Int64)).bind fun y8 => if y8 = 0 then (D_X7_refused σ (-2 : Int32)).bind fun y54 => some (y54.1, y54.2) else (D_X7_cellsBarred σ p1 p2 p3 p4.toInt64).bind fun y16 => if 0 ≤ y16.1 then (D_X7_readsRide y16.2 (((60 : Int32) * p1) + p3) p4).bind fun y27 => if y27.1 = 0 then (D_X7_refused y27.2 ((-100 : Int32) - (y27.2 0 10))).bind fun y48 => some (y48.1, y48.2) else D_X7_ride_106 FU (up2 (up2 (up2 y27.2 0 1 (y27.2 0 11)) 0 2 ((up2 y27.2 0 1 (y27.2 0 11)) 0 12)) 0 4 ((up2 (up2 y27.2 0 1 (y27.2 0 11)) 0 2 ((up2 y27.2 0 1 (y27.2 0 11)) 0 12)) 0 13)) (0 : Int32) else some (y16.1, y16.2) else (D_X7_refused σ (-1 : Int32)).bind fun y58 => some (y58.1, y58.2)
set_option maxRecDepth 100000 in
set_option maxHeartbeats 4000000 in
theorem c_X7_ride (l : Launch) (g : Gh) (q : Nat → Nat) (sz : Nat) (σ : St) (p1 : Int32) (p2 : Int32) (p3 : Int32) (p4 : Int32) {rr : (Int32 × St)} (hD : D_X7_ride σ p1 p2 p3 p4 = some rr) : Met l yX7_ride (wU yX7_ride cX7_ride 7 (some .int)) (rmD 5) (PQ g (eM g q) q 22 σ sz [.ref (q 0), .int p1, .int p2, .int p3, .int p4]) (QI g (eM g q) q 22 rr.1 rr.2 sz) 0 0 (AQ q 22 sz) := by
  refine met_of (Qc := QI g (eM g q) q 22 rr.1 rr.2) (by decide) (Nat.le_of_ble_eq_true rfl) ?_
  intro p e s m below meth c ls X I hl
  have hx := X.1
  have hb := X.2.1
  have hl : lv_has ls 7 [(0, .ref (q 0)), (1, .int p1), (2, .int p2), (3, .int p3), (4, .int p4)] := hl
  unfold D_X7_ride at hD
  refine lv_iload_n hx hb dX7_ride_0 rfl (lv_at hl 1 rfl) ?_
  obtain ⟨y2, hy2, hD⟩ := bd_s hD
  refine r_calli (r_runS (As := [.int p1]) (rest := []) X I (c_X7_noSheet l g q _ σ p1 hy2) ks_X7_noSheet ml_X7_136 ⟨Nat.le_of_ble_eq_true rfl, Nat.le_of_ble_eq_true rfl⟩ ⟨Nat.zero_le _, Nat.zero_le _⟩ rfl rfl hl.1 (Nat.le_of_ble_eq_true rfl) dX7_ride_1) I (fun H locs I => ?_)
  refine lv_if_eq (tgt := 13) hx hb dX7_ride_4 (by decide) (fun hc3 => ?_) (fun hc3 => ?_)
  · have hD := ite_p hc3 hD
    refine lv_iload_n hx hb dX7_ride_13 rfl (lv_at hl 2 rfl) ?_
    refine lv_i2l hx hb dX7_ride_14 rfl ?_
    refine lv_lconst (v := 0) hx hb dX7_ride_15 rfl ?_
    refine lv_ldc2 (v := 2) hx hb X.2.2.2.2.1 (X.2.2.2.2.2.1 _ cl_X7_143) dX7_ride_16 ?_
    obtain ⟨y8, hy8, hD⟩ := bd_s hD
    refine r_calli (r_runS (As := [.long p2.toInt64, .long (0 : Int64), .long (2 : Int64)]) (rest := []) X I (c_X7_in l g q _ σ p2.toInt64 (0 : Int64) (2 : Int64) hy8) ks_X7_in ml_X7_87 ⟨Nat.le_of_ble_eq_true rfl, Nat.le_of_ble_eq_true rfl⟩ ⟨Nat.zero_le _, Nat.zero_le _⟩ rfl rfl hl.1 (Nat.le_of_ble_eq_true rfl) dX7_ride_19) I (fun H locs I => ?_)
    refine lv_if_ne (tgt := 32) hx hb dX7_ride_22 (by decide) (fun hc9 => ?_) (fun hc9 => ?_)
    · have hD := ite_n hc9 hD
      refine lv_aload_n hx hb dX7_ride_32 rfl (lv_at hl 0 rfl) ?_
      refine lv_iload_n hx hb dX7_ride_33 rfl (lv_at hl 1 rfl) ?_
      refine lv_iload_n hx hb dX7_ride_34 rfl (lv_at hl 2 rfl) ?_
      refine lv_iload_n hx hb dX7_ride_35 rfl (lv_at hl 3 rfl) ?_
      refine lv_iload hx hb dX7_ride_36 (lv_at hl 4 rfl) ?_
      refine lv_i2l hx hb dX7_ride_38 rfl ?_
      obtain ⟨y16, hy16, hD⟩ := bd_s hD
      refine r_calli (r_runV (As := [.int p1, .int p2, .int p3, .long p4.toInt64]) (rest := []) X I (c_X7_cellsBarred l g q _ σ p1 p2 p3 p4.toInt64 hy16) kv_X7_cellsBarred ml_X7_145 rfl (by decide) (eM_Model g q _) ⟨Nat.le_of_ble_eq_true rfl, Nat.le_of_ble_eq_true rfl⟩ ⟨Nat.zero_le _, Nat.zero_le _⟩ rfl rfl hl.1 (Nat.le_of_ble_eq_true rfl) dX7_ride_39) I (fun H locs I => ?_)
      refine lv_istore (lv' := [(5, .int y16.1), (0, .ref (q 0)), (1, .int p1), (2, .int p2), (3, .int p3), (4, .int p4)]) hx hb dX7_ride_42 hl (by decide) rfl (fun ls hl => ?_)
      refine lv_iload hx hb dX7_ride_44 (lv_at hl 0 rfl) ?_
      refine lv_if_ge (tgt := 52) hx hb dX7_ride_46 (by decide) (fun hc19 => ?_) (fun hc19 => ?_)
      · have hD := ite_p hc19 hD
        refine lv_aload_n hx hb dX7_ride_52 rfl (lv_at hl 1 rfl) ?_
        refine lv_bipush (v := 60) hx hb dX7_ride_53 (by decide) ?_
        refine lv_iload_n hx hb dX7_ride_55 rfl (lv_at hl 2 rfl) ?_
        refine lv_imul hx hb dX7_ride_56 ?_
        refine lv_iload_n hx hb dX7_ride_57 rfl (lv_at hl 4 rfl) ?_
        refine lv_iadd hx hb dX7_ride_58 ?_
        refine lv_iload hx hb dX7_ride_59 (lv_at hl 5 rfl) ?_
        obtain ⟨y27, hy27, hD⟩ := bd_s hD
        refine r_calli (r_runV (As := [.int (((60 : Int32) * p1) + p3), .int p4]) (rest := []) X I (c_X7_readsRide l g q _ y16.2 (((60 : Int32) * p1) + p3) p4 hy27) kv_X7_readsRide ml_X7_149 rfl (by decide) (eM_Model g q _) ⟨Nat.le_of_ble_eq_true rfl, Nat.le_of_ble_eq_true rfl⟩ ⟨Nat.zero_le _, Nat.zero_le _⟩ rfl rfl hl.1 (Nat.le_of_ble_eq_true rfl) dX7_ride_61) I (fun H locs I => ?_)
        refine lv_if_ne (tgt := 79) hx hb dX7_ride_64 (by decide) (fun hc28 => ?_) (fun hc28 => ?_)
        · have hD := ite_n hc28 hD
          refine lv_aload_n hx hb dX7_ride_79 rfl (lv_at hl 1 rfl) ?_
          refine lv_aload_n hx hb dX7_ride_80 rfl (lv_at hl 1 rfl) ?_
          refine g_Model_readSeats X I fl_X7_119 dX7_ride_81 ?_
          refine p_Model_seats X I fl_X7_152 dX7_ride_84 (fun H locs I => ?_)
          refine lv_aload_n hx hb dX7_ride_87 rfl (lv_at hl 1 rfl) ?_
          refine lv_aload_n hx hb dX7_ride_88 rfl (lv_at hl 1 rfl) ?_
          refine g_Model_readSections X I fl_X7_109 dX7_ride_89 ?_
          refine p_Model_sections X I fl_X7_84 dX7_ride_92 (fun H locs I => ?_)
          refine lv_aload_n hx hb dX7_ride_95 rfl (lv_at hl 1 rfl) ?_
          refine lv_aload_n hx hb dX7_ride_96 rfl (lv_at hl 1 rfl) ?_
          refine g_Model_readRiders X I fl_X7_112 dX7_ride_97 ?_
          refine p_Model_riders X I fl_X7_91 dX7_ride_100 (fun H locs I => ?_)
          refine lv_iconst (v := 0) hx hb dX7_ride_103 (by decide) ?_
          refine lv_istore (lv' := [(6, .int (0 : Int32)), (5, .int y16.1), (0, .ref (q 0)), (1, .int p1), (2, .int p2), (3, .int p3), (4, .int p4)]) hx hb dX7_ride_104 hl (by decide) rfl (fun ls hl => ?_)
          exact w_X7_ride_106 g q X FU (up2 (up2 (up2 y27.2 0 1 (y27.2 0 11)) 0 2 ((up2 y27.2 0 1 (y27.2 0 11)) 0 12)) 0 4 ((up2 (up2 y27.2 0 1 (y27.2 0 11)) 0 2 ((up2 y27.2 0 1 (y27.2 0 11)) 0 12)) 0 13)) (0 : Int32) hD _ _ _ I (lv_sub hl [2, 0] rfl)
        · have hD := ite_p hc28 hD
          refine lv_aload_n hx hb dX7_ride_67 rfl (lv_at hl 1 rfl) ?_
          refine lv_bipush (v := -100) hx hb dX7_ride_68 (by decide) ?_
          refine lv_aload_n hx hb dX7_ride_70 rfl (lv_at hl 1 rfl) ?_
          refine g_Model_readAt X I fl_X7_98 dX7_ride_71 ?_
          refine lv_isub hx hb dX7_ride_74 ?_
          obtain ⟨y48, hy48, hD⟩ := bd_s hD
          refine r_calli (r_runV (As := [.int ((-100 : Int32) - (y27.2 0 10))]) (rest := []) X I (c_X7_refused l g q _ y27.2 ((-100 : Int32) - (y27.2 0 10)) hy48) kv_X7_refused ml_X7_140 rfl (by decide) (eM_Model g q _) ⟨Nat.le_of_ble_eq_true rfl, Nat.le_of_ble_eq_true rfl⟩ ⟨Nat.zero_le _, Nat.zero_le _⟩ rfl rfl hl.1 (Nat.le_of_ble_eq_true rfl) dX7_ride_75) I (fun H locs I => ?_)
          exact r_iret2 X I hD dX7_ride_78
      · have hD := ite_n hc19 hD
        refine lv_iload hx hb dX7_ride_49 (lv_at hl 0 rfl) ?_
        exact r_iret2 X I hD dX7_ride_51
    · have hD := ite_p hc9 hD
      refine lv_aload_n hx hb dX7_ride_25 rfl (lv_at hl 0 rfl) ?_
      refine lv_bipush (v := -2) hx hb dX7_ride_26 (by decide) ?_
      obtain ⟨y54, hy54, hD⟩ := bd_s hD
      refine r_calli (r_runV (As := [.int (-2 : Int32)]) (rest := []) X I (c_X7_refused l g q _ σ (-2 : Int32) hy54) kv_X7_refused ml_X7_140 rfl (by decide) (eM_Model g q _) ⟨Nat.le_of_ble_eq_true rfl, Nat.le_of_ble_eq_true rfl⟩ ⟨Nat.zero_le _, Nat.zero_le _⟩ rfl rfl hl.1 (Nat.le_of_ble_eq_true rfl) dX7_ride_28) I (fun H locs I => ?_)
      exact r_iret2 X I hD dX7_ride_31
  · have hD := ite_n hc3 hD
    refine lv_aload_n hx hb dX7_ride_7 rfl (lv_at hl 0 rfl) ?_
    refine lv_iconst (v := -1) hx hb dX7_ride_8 (by decide) ?_
    obtain ⟨y58, hy58, hD⟩ := bd_s hD
    refine r_calli (r_runV (As := [.int (-1 : Int32)]) (rest := []) X I (c_X7_refused l g q _ σ (-1 : Int32) hy58) kv_X7_refused ml_X7_140 rfl (by decide) (eM_Model g q _) ⟨Nat.le_of_ble_eq_true rfl, Nat.le_of_ble_eq_true rfl⟩ ⟨Nat.zero_le _, Nat.zero_le _⟩ rfl rfl hl.1 (Nat.le_of_ble_eq_true rfl) dX7_ride_9) I (fun H locs I => ?_)
    exact r_iret2 X I hD dX7_ride_12

/-! YearDeckModel.ofRider(II)I -/
def D_X7_ofRider (σ : St) (p1 : Int32) (p2 : Int32) : Option Int32 := (D_X7_noRider σ p1).bind fun y3 => if y3 = 0 then if p2 = (0 : Int32) then gd (inb p1 4) (some (σ 2 p1.toNatClampNeg)) else if p2 = (1 : Int32) then gd (inb p1 4) (some (σ 3 p1.toNatClampNeg)) else if p2 = (2 : Int32) then gd (inb p1 4) (some (σ 4 p1.toNatClampNeg)) else if p2 = (3 : Int32) then gd (inb p1 4) (some (σ 5 p1.toNatClampNeg)) else if p2 = (4 : Int32) then gd (inb p1 4) (some (σ 6 p1.toNatClampNeg)) else if p2 = (5 : Int32) then (D_X7_allOf σ p1).bind fun y40 => some y40 else some (-2 : Int32) else some (-1 : Int32)
set_option maxRecDepth 100000 in
set_option maxHeartbeats 4000000 in
theorem c_X7_ofRider (l : Launch) (g : Gh) (q : Nat → Nat) (sz : Nat) (σ : St) (p1 : Int32) (p2 : Int32) {rr : Int32} (hD : D_X7_ofRider σ p1 p2 = some rr) : Met l yX7_ofRider (wU yX7_ofRider cX7_ofRider 3 (some .int)) (rmD 2) (PQ g (eM g q) q 22 σ sz [.ref (q 0), .int p1, .int p2]) (QI g (eM g q) q 22 rr σ sz) 0 0 (AQ q 22 sz) := by
  refine met_of (Qc := QI g (eM g q) q 22 rr σ) (by decide) (Nat.le_of_ble_eq_true rfl) ?_
  intro p e s m below meth c ls X I hl
  have hx := X.1
  have hb := X.2.1
  have hl : lv_has ls 3 [(0, .ref (q 0)), (1, .int p1), (2, .int p2)] := hl
  unfold D_X7_ofRider at hD
  refine lv_aload_n hx hb dX7_ofRider_0 rfl (lv_at hl 0 rfl) ?_
  refine lv_iload_n hx hb dX7_ofRider_1 rfl (lv_at hl 1 rfl) ?_
  obtain ⟨y3, hy3, hD⟩ := bd_s hD
  refine r_calli (r_runV (As := [.int p1]) (rest := []) X I (c_X7_noRider l g q _ σ p1 hy3) kv_X7_noRider ml_X7_158 rfl (by decide) (eM_Model g q _) ⟨Nat.le_of_ble_eq_true rfl, Nat.le_of_ble_eq_true rfl⟩ ⟨Nat.zero_le _, Nat.zero_le _⟩ rfl rfl hl.1 (Nat.le_of_ble_eq_true rfl) dX7_ofRider_2) I (fun H locs I => ?_)
  refine lv_if_eq (tgt := 10) hx hb dX7_ofRider_5 (by decide) (fun hc4 => ?_) (fun hc4 => ?_)
  · have hD := ite_p hc4 hD
    refine lv_iload_n hx hb dX7_ofRider_10 rfl (lv_at hl 2 rfl) ?_
    by_cases hc7 : p2 = (0 : Int32)
    · have hD := ite_p hc7 hD
      refine lv_tableIn (off := 37) (tgt := 48) hx hb dX7_ofRider_11 (by rw [hc7]; decide) (by rw [hc7]; decide) (by rw [hc7]; rfl) (by decide) ?_
      refine lv_aload_n hx hb dX7_ofRider_48 rfl (lv_at hl 0 rfl) ?_
      refine g_Model_kindOf X I fl_X7_13 dX7_ofRider_49 ?_
      refine lv_iload_n hx hb dX7_ofRider_52 rfl (lv_at hl 1 rfl) ?_
      obtain ⟨hg11, hD⟩ := gd_s hD
      refine r_iald X I (by decide) ((eMa_2 g q) _) hg11 dX7_ofRider_53 ?_
      exact r_iret X I hD dX7_ofRider_54
    · have hD := ite_n hc7 hD
      by_cases hc13 : p2 = (1 : Int32)
      · have hD := ite_p hc13 hD
        refine lv_tableIn (off := 44) (tgt := 55) hx hb dX7_ofRider_11 (by rw [hc13]; decide) (by rw [hc13]; decide) (by rw [hc13]; rfl) (by decide) ?_
        refine lv_aload_n hx hb dX7_ofRider_55 rfl (lv_at hl 0 rfl) ?_
        refine g_Model_onOf X I fl_X7_16 dX7_ofRider_56 ?_
        refine lv_iload_n hx hb dX7_ofRider_59 rfl (lv_at hl 1 rfl) ?_
        obtain ⟨hg17, hD⟩ := gd_s hD
        refine r_iald X I (by decide) ((eMa_3 g q) _) hg17 dX7_ofRider_60 ?_
        exact r_iret X I hD dX7_ofRider_61
      · have hD := ite_n hc13 hD
        by_cases hc19 : p2 = (2 : Int32)
        · have hD := ite_p hc19 hD
          refine lv_tableIn (off := 51) (tgt := 62) hx hb dX7_ofRider_11 (by rw [hc19]; decide) (by rw [hc19]; decide) (by rw [hc19]; rfl) (by decide) ?_
          refine lv_aload_n hx hb dX7_ofRider_62 rfl (lv_at hl 0 rfl) ?_
          refine g_Model_offOf X I fl_X7_19 dX7_ofRider_63 ?_
          refine lv_iload_n hx hb dX7_ofRider_66 rfl (lv_at hl 1 rfl) ?_
          obtain ⟨hg23, hD⟩ := gd_s hD
          refine r_iald X I (by decide) ((eMa_4 g q) _) hg23 dX7_ofRider_67 ?_
          exact r_iret X I hD dX7_ofRider_68
        · have hD := ite_n hc19 hD
          by_cases hc25 : p2 = (3 : Int32)
          · have hD := ite_p hc25 hD
            refine lv_tableIn (off := 58) (tgt := 69) hx hb dX7_ofRider_11 (by rw [hc25]; decide) (by rw [hc25]; decide) (by rw [hc25]; rfl) (by decide) ?_
            refine lv_aload_n hx hb dX7_ofRider_69 rfl (lv_at hl 0 rfl) ?_
            refine g_Model_ageOf X I fl_X7_22 dX7_ofRider_70 ?_
            refine lv_iload_n hx hb dX7_ofRider_73 rfl (lv_at hl 1 rfl) ?_
            obtain ⟨hg29, hD⟩ := gd_s hD
            refine r_iald X I (by decide) ((eMa_5 g q) _) hg29 dX7_ofRider_74 ?_
            exact r_iret X I hD dX7_ofRider_75
          · have hD := ite_n hc25 hD
            by_cases hc31 : p2 = (4 : Int32)
            · have hD := ite_p hc31 hD
              refine lv_tableIn (off := 65) (tgt := 76) hx hb dX7_ofRider_11 (by rw [hc31]; decide) (by rw [hc31]; decide) (by rw [hc31]; rfl) (by decide) ?_
              refine lv_aload_n hx hb dX7_ofRider_76 rfl (lv_at hl 0 rfl) ?_
              refine g_Model_wantOf X I fl_X7_25 dX7_ofRider_77 ?_
              refine lv_iload_n hx hb dX7_ofRider_80 rfl (lv_at hl 1 rfl) ?_
              obtain ⟨hg35, hD⟩ := gd_s hD
              refine r_iald X I (by decide) ((eMa_6 g q) _) hg35 dX7_ofRider_81 ?_
              exact r_iret X I hD dX7_ofRider_82
            · have hD := ite_n hc31 hD
              by_cases hc37 : p2 = (5 : Int32)
              · have hD := ite_p hc37 hD
                refine lv_tableIn (off := 72) (tgt := 83) hx hb dX7_ofRider_11 (by rw [hc37]; decide) (by rw [hc37]; decide) (by rw [hc37]; rfl) (by decide) ?_
                refine lv_aload_n hx hb dX7_ofRider_83 rfl (lv_at hl 0 rfl) ?_
                refine lv_iload_n hx hb dX7_ofRider_84 rfl (lv_at hl 1 rfl) ?_
                obtain ⟨y40, hy40, hD⟩ := bd_s hD
                refine r_calli (r_runV (As := [.int p1]) (rest := []) X I (c_X7_allOf l g q _ σ p1 hy40) kv_X7_allOf ml_X7_94 rfl (by decide) (eM_Model g q _) ⟨Nat.le_of_ble_eq_true rfl, Nat.le_of_ble_eq_true rfl⟩ ⟨Nat.zero_le _, Nat.zero_le _⟩ rfl rfl hl.1 (Nat.le_of_ble_eq_true rfl) dX7_ofRider_85) I (fun H locs I => ?_)
                exact r_iret X I hD dX7_ofRider_88
              · have hD := ite_n hc37 hD
                have ho7 := ne_toInt hc7 (a := 0) (by decide)
                have ho13 := ne_toInt hc13 (a := 1) (by decide)
                have ho19 := ne_toInt hc19 (a := 2) (by decide)
                have ho25 := ne_toInt hc25 (a := 3) (by decide)
                have ho31 := ne_toInt hc31 (a := 4) (by decide)
                have ho37 := ne_toInt hc37 (a := 5) (by decide)
                refine lv_tableOut (tgt := 89) hx hb dX7_ofRider_11 (by omega) (by decide) ?_
                refine lv_bipush (v := -2) hx hb dX7_ofRider_89 (by decide) ?_
                exact r_iret X I hD dX7_ofRider_91
  · have hD := ite_n hc4 hD
    refine lv_iconst (v := -1) hx hb dX7_ofRider_8 (by decide) ?_
    exact r_iret X I hD dX7_ofRider_9

/-! YearDeckModel.slope(I)I -/
def D_X7_slope (σ : St) (p1 : Int32) : Option Int32 := (D_X7_noSection σ p1).bind fun y3 => if y3 = 0 then gd (inb p1 5) (some (σ 1 p1.toNatClampNeg)) else some (-1 : Int32)
set_option maxRecDepth 100000 in
set_option maxHeartbeats 4000000 in
theorem c_X7_slope (l : Launch) (g : Gh) (q : Nat → Nat) (sz : Nat) (σ : St) (p1 : Int32) {rr : Int32} (hD : D_X7_slope σ p1 = some rr) : Met l yX7_slope (wU yX7_slope cX7_slope 2 (some .int)) (rmD 2) (PQ g (eM g q) q 22 σ sz [.ref (q 0), .int p1]) (QI g (eM g q) q 22 rr σ sz) 0 0 (AQ q 22 sz) := by
  refine met_of (Qc := QI g (eM g q) q 22 rr σ) (by decide) (Nat.le_of_ble_eq_true rfl) ?_
  intro p e s m below meth c ls X I hl
  have hx := X.1
  have hb := X.2.1
  have hl : lv_has ls 2 [(0, .ref (q 0)), (1, .int p1)] := hl
  unfold D_X7_slope at hD
  refine lv_aload_n hx hb dX7_slope_0 rfl (lv_at hl 0 rfl) ?_
  refine lv_iload_n hx hb dX7_slope_1 rfl (lv_at hl 1 rfl) ?_
  obtain ⟨y3, hy3, hD⟩ := bd_s hD
  refine r_calli (r_runV (As := [.int p1]) (rest := []) X I (c_X7_noSection l g q _ σ p1 hy3) kv_X7_noSection ml_X7_161 rfl (by decide) (eM_Model g q _) ⟨Nat.le_of_ble_eq_true rfl, Nat.le_of_ble_eq_true rfl⟩ ⟨Nat.zero_le _, Nat.zero_le _⟩ rfl rfl hl.1 (Nat.le_of_ble_eq_true rfl) dX7_slope_2) I (fun H locs I => ?_)
  refine lv_if_eq (tgt := 12) hx hb dX7_slope_5 (by decide) (fun hc4 => ?_) (fun hc4 => ?_)
  · have hD := ite_p hc4 hD
    refine lv_aload_n hx hb dX7_slope_12 rfl (lv_at hl 0 rfl) ?_
    refine g_Model_slopeOf X I fl_X7_7 dX7_slope_13 ?_
    refine lv_iload_n hx hb dX7_slope_16 rfl (lv_at hl 1 rfl) ?_
    obtain ⟨hg8, hD⟩ := gd_s hD
    refine r_iald X I (by decide) ((eMa_1 g q) _) hg8 dX7_slope_17 ?_
    exact r_iret X I hD dX7_slope_18
  · have hD := ite_n hc4 hD
    refine lv_iconst (v := -1) hx hb dX7_slope_8 (by decide) ?_
    refine lv_goto (tgt := 18) hx hb dX7_slope_9 (by decide) ?_
    exact r_iret X I hD dX7_slope_18

/-! YearDeckModel.tilt(II)I -/
def D_X7_tilt (σ : St) (p1 : Int32) (p2 : Int32) : Option (Int32 × St) := (D_X7_noSection σ p1).bind fun y3 => if y3 = 0 then (D_X7_in σ p2.toInt64 (0 : Int64) (3 : Int64)).bind fun y9 => if y9 = 0 then some ((-2 : Int32), σ) else gd (inb p1 5) (gd (inb p1 5) (some (σ 1 p1.toNatClampNeg, up2 σ 1 p1.toNatClampNeg p2))) else some ((-1 : Int32), σ)
set_option maxRecDepth 100000 in
set_option maxHeartbeats 4000000 in
theorem c_X7_tilt (l : Launch) (g : Gh) (q : Nat → Nat) (sz : Nat) (σ : St) (p1 : Int32) (p2 : Int32) {rr : (Int32 × St)} (hD : D_X7_tilt σ p1 p2 = some rr) : Met l yX7_tilt (wU yX7_tilt cX7_tilt 4 (some .int)) (rmD 2) (PQ g (eM g q) q 22 σ sz [.ref (q 0), .int p1, .int p2]) (QI g (eM g q) q 22 rr.1 rr.2 sz) 0 0 (AQ q 22 sz) := by
  refine met_of (Qc := QI g (eM g q) q 22 rr.1 rr.2) (by decide) (Nat.le_of_ble_eq_true rfl) ?_
  intro p e s m below meth c ls X I hl
  have hx := X.1
  have hb := X.2.1
  have hl : lv_has ls 4 [(0, .ref (q 0)), (1, .int p1), (2, .int p2)] := hl
  unfold D_X7_tilt at hD
  refine lv_aload_n hx hb dX7_tilt_0 rfl (lv_at hl 0 rfl) ?_
  refine lv_iload_n hx hb dX7_tilt_1 rfl (lv_at hl 1 rfl) ?_
  obtain ⟨y3, hy3, hD⟩ := bd_s hD
  refine r_calli (r_runV (As := [.int p1]) (rest := []) X I (c_X7_noSection l g q _ σ p1 hy3) kv_X7_noSection ml_X7_161 rfl (by decide) (eM_Model g q _) ⟨Nat.le_of_ble_eq_true rfl, Nat.le_of_ble_eq_true rfl⟩ ⟨Nat.zero_le _, Nat.zero_le _⟩ rfl rfl hl.1 (Nat.le_of_ble_eq_true rfl) dX7_tilt_2) I (fun H locs I => ?_)
  refine lv_if_eq (tgt := 10) hx hb dX7_tilt_5 (by decide) (fun hc4 => ?_) (fun hc4 => ?_)
  · have hD := ite_p hc4 hD
    refine lv_iload_n hx hb dX7_tilt_10 rfl (lv_at hl 2 rfl) ?_
    refine lv_i2l hx hb dX7_tilt_11 rfl ?_
    refine lv_lconst (v := 0) hx hb dX7_tilt_12 rfl ?_
    refine lv_ldc2 (v := 3) hx hb X.2.2.2.2.1 (X.2.2.2.2.2.1 _ cl_X7_164) dX7_tilt_13 ?_
    obtain ⟨y9, hy9, hD⟩ := bd_s hD
    refine r_calli (r_runS (As := [.long p2.toInt64, .long (0 : Int64), .long (3 : Int64)]) (rest := []) X I (c_X7_in l g q _ σ p2.toInt64 (0 : Int64) (3 : Int64) hy9) ks_X7_in ml_X7_87 ⟨Nat.le_of_ble_eq_true rfl, Nat.le_of_ble_eq_true rfl⟩ ⟨Nat.zero_le _, Nat.zero_le _⟩ rfl rfl hl.1 (Nat.le_of_ble_eq_true rfl) dX7_tilt_16) I (fun H locs I => ?_)
    refine lv_if_ne (tgt := 25) hx hb dX7_tilt_19 (by decide) (fun hc10 => ?_) (fun hc10 => ?_)
    · have hD := ite_n hc10 hD
      refine lv_aload_n hx hb dX7_tilt_25 rfl (lv_at hl 0 rfl) ?_
      refine g_Model_slopeOf X I fl_X7_7 dX7_tilt_26 ?_
      refine lv_iload_n hx hb dX7_tilt_29 rfl (lv_at hl 1 rfl) ?_
      obtain ⟨hg14, hD⟩ := gd_s hD
      refine r_iald X I (by decide) ((eMa_1 g q) _) hg14 dX7_tilt_30 ?_
      refine lv_istore_n (lv' := [(3, .int (σ 1 p1.toNatClampNeg)), (0, .ref (q 0)), (1, .int p1), (2, .int p2)]) hx hb dX7_tilt_31 rfl hl (by decide) rfl (fun ls hl => ?_)
      refine lv_aload_n hx hb dX7_tilt_32 rfl (lv_at hl 1 rfl) ?_
      refine g_Model_slopeOf X I fl_X7_7 dX7_tilt_33 ?_
      refine lv_iload_n hx hb dX7_tilt_36 rfl (lv_at hl 2 rfl) ?_
      refine lv_iload_n hx hb dX7_tilt_37 rfl (lv_at hl 3 rfl) ?_
      obtain ⟨hg20, hD⟩ := gd_s hD
      refine r_iast (eM_loc g q) X I (by decide) (eMa_1 g q) hg20 dX7_tilt_38 (fun H locs I => ?_)
      refine lv_iload_n hx hb dX7_tilt_39 rfl (lv_at hl 0 rfl) ?_
      exact r_iret2 X I hD dX7_tilt_40
    · have hD := ite_p hc10 hD
      refine lv_bipush (v := -2) hx hb dX7_tilt_22 (by decide) ?_
      exact r_iret2 X I hD dX7_tilt_24
  · have hD := ite_n hc4 hD
    refine lv_iconst (v := -1) hx hb dX7_tilt_8 (by decide) ?_
    exact r_iret2 X I hD dX7_tilt_9

/-! YearDeckModel.seat(I)I -/
def D_X7_seat (σ : St) (p1 : Int32) : Option (Int32 × St) := (D_X7_in σ p1.toInt64 (0 : Int64) (3 : Int64)).bind fun y5 => if y5 = 0 then some ((-2 : Int32), σ) else if (σ 0 4) = 0 then some ((-3 : Int32), σ) else some (σ 0 1, up2 σ 0 1 p1)
set_option maxRecDepth 100000 in
set_option maxHeartbeats 4000000 in
theorem c_X7_seat (l : Launch) (g : Gh) (q : Nat → Nat) (sz : Nat) (σ : St) (p1 : Int32) {rr : (Int32 × St)} (hD : D_X7_seat σ p1 = some rr) : Met l yX7_seat (wU yX7_seat cX7_seat 3 (some .int)) (rmD 1) (PQ g (eM g q) q 22 σ sz [.ref (q 0), .int p1]) (QI g (eM g q) q 22 rr.1 rr.2 sz) 0 0 (AQ q 22 sz) := by
  refine met_of (Qc := QI g (eM g q) q 22 rr.1 rr.2) (by decide) (Nat.le_of_ble_eq_true rfl) ?_
  intro p e s m below meth c ls X I hl
  have hx := X.1
  have hb := X.2.1
  have hl : lv_has ls 3 [(0, .ref (q 0)), (1, .int p1)] := hl
  unfold D_X7_seat at hD
  refine lv_iload_n hx hb dX7_seat_0 rfl (lv_at hl 1 rfl) ?_
  refine lv_i2l hx hb dX7_seat_1 rfl ?_
  refine lv_lconst (v := 0) hx hb dX7_seat_2 rfl ?_
  refine lv_ldc2 (v := 3) hx hb X.2.2.2.2.1 (X.2.2.2.2.2.1 _ cl_X7_164) dX7_seat_3 ?_
  obtain ⟨y5, hy5, hD⟩ := bd_s hD
  refine r_calli (r_runS (As := [.long p1.toInt64, .long (0 : Int64), .long (3 : Int64)]) (rest := []) X I (c_X7_in l g q _ σ p1.toInt64 (0 : Int64) (3 : Int64) hy5) ks_X7_in ml_X7_87 ⟨Nat.le_of_ble_eq_true rfl, Nat.le_of_ble_eq_true rfl⟩ ⟨Nat.zero_le _, Nat.zero_le _⟩ rfl rfl hl.1 (Nat.le_of_ble_eq_true rfl) dX7_seat_6) I (fun H locs I => ?_)
  refine lv_if_ne (tgt := 15) hx hb dX7_seat_9 (by decide) (fun hc6 => ?_) (fun hc6 => ?_)
  · have hD := ite_n hc6 hD
    refine lv_aload_n hx hb dX7_seat_15 rfl (lv_at hl 0 rfl) ?_
    refine g_Model_riders X I fl_X7_91 dX7_seat_16 ?_
    refine lv_if_ne (tgt := 25) hx hb dX7_seat_19 (by decide) (fun hc9 => ?_) (fun hc9 => ?_)
    · have hD := ite_n hc9 hD
      refine lv_aload_n hx hb dX7_seat_25 rfl (lv_at hl 0 rfl) ?_
      refine g_Model_seats X I fl_X7_152 dX7_seat_26 ?_
      refine lv_istore_n (lv' := [(2, .int (σ 0 1)), (0, .ref (q 0)), (1, .int p1)]) hx hb dX7_seat_29 rfl hl (by decide) rfl (fun ls hl => ?_)
      refine lv_aload_n hx hb dX7_seat_30 rfl (lv_at hl 1 rfl) ?_
      refine lv_iload_n hx hb dX7_seat_31 rfl (lv_at hl 2 rfl) ?_
      refine p_Model_seats X I fl_X7_152 dX7_seat_32 (fun H locs I => ?_)
      refine lv_iload_n hx hb dX7_seat_35 rfl (lv_at hl 0 rfl) ?_
      exact r_iret2 X I hD dX7_seat_36
    · have hD := ite_p hc9 hD
      refine lv_bipush (v := -3) hx hb dX7_seat_22 (by decide) ?_
      exact r_iret2 X I hD dX7_seat_24
  · have hD := ite_p hc6 hD
    refine lv_bipush (v := -2) hx hb dX7_seat_12 (by decide) ?_
    exact r_iret2 X I hD dX7_seat_14

/-! YearDeckModel.wish(II)I -/
def D_X7_wish (σ : St) (p1 : Int32) (p2 : Int32) : Option (Int32 × St) := (D_X7_noRider σ p1).bind fun y3 => if y3 = 0 then (D_X7_in σ p2.toInt64 (0 : Int64) (99 : Int64)).bind fun y9 => if y9 = 0 then some ((-2 : Int32), σ) else gd (inb p1 4) (gd (inb p1 4) (some (σ 6 p1.toNatClampNeg, up2 σ 6 p1.toNatClampNeg p2))) else some ((-1 : Int32), σ)
set_option maxRecDepth 100000 in
set_option maxHeartbeats 4000000 in
theorem c_X7_wish (l : Launch) (g : Gh) (q : Nat → Nat) (sz : Nat) (σ : St) (p1 : Int32) (p2 : Int32) {rr : (Int32 × St)} (hD : D_X7_wish σ p1 p2 = some rr) : Met l yX7_wish (wU yX7_wish cX7_wish 4 (some .int)) (rmD 2) (PQ g (eM g q) q 22 σ sz [.ref (q 0), .int p1, .int p2]) (QI g (eM g q) q 22 rr.1 rr.2 sz) 0 0 (AQ q 22 sz) := by
  refine met_of (Qc := QI g (eM g q) q 22 rr.1 rr.2) (by decide) (Nat.le_of_ble_eq_true rfl) ?_
  intro p e s m below meth c ls X I hl
  have hx := X.1
  have hb := X.2.1
  have hl : lv_has ls 4 [(0, .ref (q 0)), (1, .int p1), (2, .int p2)] := hl
  unfold D_X7_wish at hD
  refine lv_aload_n hx hb dX7_wish_0 rfl (lv_at hl 0 rfl) ?_
  refine lv_iload_n hx hb dX7_wish_1 rfl (lv_at hl 1 rfl) ?_
  obtain ⟨y3, hy3, hD⟩ := bd_s hD
  refine r_calli (r_runV (As := [.int p1]) (rest := []) X I (c_X7_noRider l g q _ σ p1 hy3) kv_X7_noRider ml_X7_158 rfl (by decide) (eM_Model g q _) ⟨Nat.le_of_ble_eq_true rfl, Nat.le_of_ble_eq_true rfl⟩ ⟨Nat.zero_le _, Nat.zero_le _⟩ rfl rfl hl.1 (Nat.le_of_ble_eq_true rfl) dX7_wish_2) I (fun H locs I => ?_)
  refine lv_if_eq (tgt := 10) hx hb dX7_wish_5 (by decide) (fun hc4 => ?_) (fun hc4 => ?_)
  · have hD := ite_p hc4 hD
    refine lv_iload_n hx hb dX7_wish_10 rfl (lv_at hl 2 rfl) ?_
    refine lv_i2l hx hb dX7_wish_11 rfl ?_
    refine lv_lconst (v := 0) hx hb dX7_wish_12 rfl ?_
    refine lv_ldc2 (v := 99) hx hb X.2.2.2.2.1 (X.2.2.2.2.2.1 _ cl_X7_166) dX7_wish_13 ?_
    obtain ⟨y9, hy9, hD⟩ := bd_s hD
    refine r_calli (r_runS (As := [.long p2.toInt64, .long (0 : Int64), .long (99 : Int64)]) (rest := []) X I (c_X7_in l g q _ σ p2.toInt64 (0 : Int64) (99 : Int64) hy9) ks_X7_in ml_X7_87 ⟨Nat.le_of_ble_eq_true rfl, Nat.le_of_ble_eq_true rfl⟩ ⟨Nat.zero_le _, Nat.zero_le _⟩ rfl rfl hl.1 (Nat.le_of_ble_eq_true rfl) dX7_wish_16) I (fun H locs I => ?_)
    refine lv_if_ne (tgt := 25) hx hb dX7_wish_19 (by decide) (fun hc10 => ?_) (fun hc10 => ?_)
    · have hD := ite_n hc10 hD
      refine lv_aload_n hx hb dX7_wish_25 rfl (lv_at hl 0 rfl) ?_
      refine g_Model_wantOf X I fl_X7_25 dX7_wish_26 ?_
      refine lv_iload_n hx hb dX7_wish_29 rfl (lv_at hl 1 rfl) ?_
      obtain ⟨hg14, hD⟩ := gd_s hD
      refine r_iald X I (by decide) ((eMa_6 g q) _) hg14 dX7_wish_30 ?_
      refine lv_istore_n (lv' := [(3, .int (σ 6 p1.toNatClampNeg)), (0, .ref (q 0)), (1, .int p1), (2, .int p2)]) hx hb dX7_wish_31 rfl hl (by decide) rfl (fun ls hl => ?_)
      refine lv_aload_n hx hb dX7_wish_32 rfl (lv_at hl 1 rfl) ?_
      refine g_Model_wantOf X I fl_X7_25 dX7_wish_33 ?_
      refine lv_iload_n hx hb dX7_wish_36 rfl (lv_at hl 2 rfl) ?_
      refine lv_iload_n hx hb dX7_wish_37 rfl (lv_at hl 3 rfl) ?_
      obtain ⟨hg20, hD⟩ := gd_s hD
      refine r_iast (eM_loc g q) X I (by decide) (eMa_6 g q) hg20 dX7_wish_38 (fun H locs I => ?_)
      refine lv_iload_n hx hb dX7_wish_39 rfl (lv_at hl 0 rfl) ?_
      exact r_iret2 X I hD dX7_wish_40
    · have hD := ite_p hc10 hD
      refine lv_bipush (v := -2) hx hb dX7_wish_22 (by decide) ?_
      exact r_iret2 X I hD dX7_wish_24
  · have hD := ite_n hc4 hD
    refine lv_iconst (v := -1) hx hb dX7_wish_8 (by decide) ?_
    exact r_iret2 X I hD dX7_wish_9

/-! YearDeckModel.gainOf(II)I -/
def D_X7_gainOf (σ : St) (p1 : Int32) (p2 : Int32) : Option Int32 := gd (inb p2 5) (gd (inb p1 4) (if (σ 2 p1.toNatClampNeg) = 0 then gd (inb p2 5) (some (σ 1 p2.toNatClampNeg)) else gd (inb p1 4) (if (σ 2 p1.toNatClampNeg) = (1 : Int32) then some ((σ 1 p2.toNatClampNeg) + (1 : Int32)) else some (((σ 1 p2.toNatClampNeg) + (1 : Int32)) / (2 : Int32)))))
set_option maxRecDepth 100000 in
set_option maxHeartbeats 4000000 in
theorem c_X7_gainOf (l : Launch) (g : Gh) (q : Nat → Nat) (sz : Nat) (σ : St) (p1 : Int32) (p2 : Int32) {rr : Int32} (hD : D_X7_gainOf σ p1 p2 = some rr) : Met l yX7_gainOf (wU yX7_gainOf cX7_gainOf 4 (some .int)) (rmD 0) (PQ g (eM g q) q 22 σ sz [.ref (q 0), .int p1, .int p2]) (QI g (eM g q) q 22 rr σ sz) 0 0 (AQ q 22 sz) := by
  refine met_of (Qc := QI g (eM g q) q 22 rr σ) (by decide) (Nat.le_of_ble_eq_true rfl) ?_
  intro p e s m below meth c ls X I hl
  have hx := X.1
  have hb := X.2.1
  have hl : lv_has ls 4 [(0, .ref (q 0)), (1, .int p1), (2, .int p2)] := hl
  unfold D_X7_gainOf at hD
  refine lv_aload_n hx hb dX7_gainOf_0 rfl (lv_at hl 0 rfl) ?_
  refine g_Model_slopeOf X I fl_X7_7 dX7_gainOf_1 ?_
  refine lv_iload_n hx hb dX7_gainOf_4 rfl (lv_at hl 2 rfl) ?_
  obtain ⟨hg4, hD⟩ := gd_s hD
  refine r_iald X I (by decide) ((eMa_1 g q) _) hg4 dX7_gainOf_5 ?_
  refine lv_iconst (v := 1) hx hb dX7_gainOf_6 (by decide) ?_
  refine lv_iadd hx hb dX7_gainOf_7 ?_
  refine lv_istore_n (lv' := [(3, .int ((σ 1 p2.toNatClampNeg) + (1 : Int32))), (0, .ref (q 0)), (1, .int p1), (2, .int p2)]) hx hb dX7_gainOf_8 rfl hl (by decide) rfl (fun ls hl => ?_)
  refine lv_aload_n hx hb dX7_gainOf_9 rfl (lv_at hl 1 rfl) ?_
  refine g_Model_kindOf X I fl_X7_13 dX7_gainOf_10 ?_
  refine lv_iload_n hx hb dX7_gainOf_13 rfl (lv_at hl 2 rfl) ?_
  obtain ⟨hg11, hD⟩ := gd_s hD
  refine r_iald X I (by decide) ((eMa_2 g q) _) hg11 dX7_gainOf_14 ?_
  refine lv_if_ne (tgt := 27) hx hb dX7_gainOf_15 (by decide) (fun hc12 => ?_) (fun hc12 => ?_)
  · have hD := ite_n hc12 hD
    refine lv_aload_n hx hb dX7_gainOf_27 rfl (lv_at hl 1 rfl) ?_
    refine g_Model_kindOf X I fl_X7_13 dX7_gainOf_28 ?_
    refine lv_iload_n hx hb dX7_gainOf_31 rfl (lv_at hl 2 rfl) ?_
    obtain ⟨hg16, hD⟩ := gd_s hD
    refine r_iald X I (by decide) ((eMa_2 g q) _) hg16 dX7_gainOf_32 ?_
    refine lv_iconst (v := 1) hx hb dX7_gainOf_33 (by decide) ?_
    refine lv_icmp_ne (tgt := 41) hx hb dX7_gainOf_34 (by decide) (fun hc18 => ?_) (fun hc18 => ?_)
    · have hD := ite_n hc18 hD
      refine lv_iload_n hx hb dX7_gainOf_41 rfl (lv_at hl 0 rfl) ?_
      refine lv_iconst (v := 2) hx hb dX7_gainOf_42 (by decide) ?_
      refine lv_idiv hx hb dX7_gainOf_43 (by decide) ?_
      exact r_iret X I hD dX7_gainOf_44
    · have hD := ite_p hc18 hD
      refine lv_iload_n hx hb dX7_gainOf_37 rfl (lv_at hl 0 rfl) ?_
      refine lv_goto (tgt := 44) hx hb dX7_gainOf_38 (by decide) ?_
      exact r_iret X I hD dX7_gainOf_44
  · have hD := ite_p hc12 hD
    refine lv_aload_n hx hb dX7_gainOf_18 rfl (lv_at hl 1 rfl) ?_
    refine g_Model_slopeOf X I fl_X7_7 dX7_gainOf_19 ?_
    refine lv_iload_n hx hb dX7_gainOf_22 rfl (lv_at hl 3 rfl) ?_
    obtain ⟨hg29, hD⟩ := gd_s hD
    refine r_iald X I (by decide) ((eMa_1 g q) _) hg29 dX7_gainOf_23 ?_
    refine lv_goto (tgt := 44) hx hb dX7_gainOf_24 (by decide) ?_
    exact r_iret X I hD dX7_gainOf_44

/-! YearDeckModel.gain(II)I -/
def D_X7_gain (σ : St) (p1 : Int32) (p2 : Int32) : Option Int32 := (D_X7_noRider σ p1).bind fun y3 => if y3 = 0 then (D_X7_noSection σ p2).bind fun y10 => if y10 = 0 then (D_X7_gainOf σ p1 p2).bind fun y15 => some y15 else some (-1 : Int32) else some (-1 : Int32)
set_option maxRecDepth 100000 in
set_option maxHeartbeats 4000000 in
theorem c_X7_gain (l : Launch) (g : Gh) (q : Nat → Nat) (sz : Nat) (σ : St) (p1 : Int32) (p2 : Int32) {rr : Int32} (hD : D_X7_gain σ p1 p2 = some rr) : Met l yX7_gain (wU yX7_gain cX7_gain 3 (some .int)) (rmD 2) (PQ g (eM g q) q 22 σ sz [.ref (q 0), .int p1, .int p2]) (QI g (eM g q) q 22 rr σ sz) 0 0 (AQ q 22 sz) := by
  refine met_of (Qc := QI g (eM g q) q 22 rr σ) (by decide) (Nat.le_of_ble_eq_true rfl) ?_
  intro p e s m below meth c ls X I hl
  have hx := X.1
  have hb := X.2.1
  have hl : lv_has ls 3 [(0, .ref (q 0)), (1, .int p1), (2, .int p2)] := hl
  unfold D_X7_gain at hD
  refine lv_aload_n hx hb dX7_gain_0 rfl (lv_at hl 0 rfl) ?_
  refine lv_iload_n hx hb dX7_gain_1 rfl (lv_at hl 1 rfl) ?_
  obtain ⟨y3, hy3, hD⟩ := bd_s hD
  refine r_calli (r_runV (As := [.int p1]) (rest := []) X I (c_X7_noRider l g q _ σ p1 hy3) kv_X7_noRider ml_X7_158 rfl (by decide) (eM_Model g q _) ⟨Nat.le_of_ble_eq_true rfl, Nat.le_of_ble_eq_true rfl⟩ ⟨Nat.zero_le _, Nat.zero_le _⟩ rfl rfl hl.1 (Nat.le_of_ble_eq_true rfl) dX7_gain_2) I (fun H locs I => ?_)
  refine lv_if_ne (tgt := 16) hx hb dX7_gain_5 (by decide) (fun hc4 => ?_) (fun hc4 => ?_)
  · have hD := ite_n hc4 hD
    refine lv_iconst (v := -1) hx hb dX7_gain_16 (by decide) ?_
    refine lv_goto (tgt := 26) hx hb dX7_gain_17 (by decide) ?_
    exact r_iret X I hD dX7_gain_26
  · have hD := ite_p hc4 hD
    refine lv_aload_n hx hb dX7_gain_8 rfl (lv_at hl 0 rfl) ?_
    refine lv_iload_n hx hb dX7_gain_9 rfl (lv_at hl 2 rfl) ?_
    obtain ⟨y10, hy10, hD⟩ := bd_s hD
    refine r_calli (r_runV (As := [.int p2]) (rest := []) X I (c_X7_noSection l g q _ σ p2 hy10) kv_X7_noSection ml_X7_161 rfl (by decide) (eM_Model g q _) ⟨Nat.le_of_ble_eq_true rfl, Nat.le_of_ble_eq_true rfl⟩ ⟨Nat.zero_le _, Nat.zero_le _⟩ rfl rfl hl.1 (Nat.le_of_ble_eq_true rfl) dX7_gain_10) I (fun H locs I => ?_)
    refine lv_if_eq (tgt := 20) hx hb dX7_gain_13 (by decide) (fun hc11 => ?_) (fun hc11 => ?_)
    · have hD := ite_p hc11 hD
      refine lv_aload_n hx hb dX7_gain_20 rfl (lv_at hl 0 rfl) ?_
      refine lv_iload_n hx hb dX7_gain_21 rfl (lv_at hl 1 rfl) ?_
      refine lv_iload_n hx hb dX7_gain_22 rfl (lv_at hl 2 rfl) ?_
      obtain ⟨y15, hy15, hD⟩ := bd_s hD
      refine r_calli (r_runV (As := [.int p1, .int p2]) (rest := []) X I (c_X7_gainOf l g q _ σ p1 p2 hy15) kv_X7_gainOf ml_X7_168 rfl (by decide) (eM_Model g q _) ⟨Nat.le_of_ble_eq_true rfl, Nat.le_of_ble_eq_true rfl⟩ ⟨Nat.zero_le _, Nat.zero_le _⟩ rfl rfl hl.1 (Nat.le_of_ble_eq_true rfl) dX7_gain_23) I (fun H locs I => ?_)
      exact r_iret X I hD dX7_gain_26
    · have hD := ite_n hc11 hD
      refine lv_iconst (v := -1) hx hb dX7_gain_16 (by decide) ?_
      refine lv_goto (tgt := 26) hx hb dX7_gain_17 (by decide) ?_
      exact r_iret X I hD dX7_gain_26

/-! YearDeckModel.ageBy(II)I -/
def D_X7_ageBy_40 (σ : St) (rc10 : Int32 → Int32 → Option Int32) (v1 : Int32) (v2 : Int32) (v4 : Int32) (t0 : Int32) (t1 : Int32) : Option Int32 := rc10 (t1 + t0) (v4 + (1 : Int32))
set_option maxRecDepth 100000 in
set_option maxHeartbeats 4000000 in
theorem w_X7_ageBy_40 {p : Program} {l : Launch} {e : Env} {s : State} {m : MethodId} {args : Array Value} {below : List Frame} {meth : Method} {c : Code} (g : Gh) (q : Nat → Nat) (X : MX p s m args meth c cX7_ageBy 5 (some .int) RX7) {rr : Int32} (σ : St)  (v1 : Int32) (v2 : Int32) (v4 : Int32) (t0 : Int32) (t1 : Int32) (rc10 : Int32 → Int32 → Option Int32) (hrc10 : ∀ (v3' : Int32) (v4' : Int32), rc10 v3' v4' = some rr → ∀ (H : Heap) (locs : List Loc) (ls : Array Slot), IM g q s σ H locs → lv_has ls 5 [(0, .ref (q 0)), (1, .int v1), (2, .int v2), (3, .int v3'), (4, .int v4')] → W p l e (rmD 1) s m args below meth c H locs 0 0 (MQ below (QI g (eM g q) q 22 rr σ s.heap.size) args s 0 0 (AQ q 22 s.heap.size)) (F0 m 10 ls [])) (hD : D_X7_ageBy_40 σ rc10 v1 v2 v4 t0 t1 = some rr) (H : Heap) (locs : List Loc) (ls : Array Slot) (I : IM g q s σ H locs) (hl : lv_has ls 5 [(0, .ref (q 0)), (1, .int v1), (2, .int v2), (4, .int v4)]) : W p l e (rmD 1) s m args below meth c H locs 0 0 (MQ below (QI g (eM g q) q 22 rr σ s.heap.size) args s 0 0 (AQ q 22 s.heap.size)) (F0 m 40 ls [.int t0, .int t1]) := by
  have hx := X.1
  have hb := X.2.1
  unfold D_X7_ageBy_40 at hD
  refine lv_iadd hx hb dX7_ageBy_40 ?_
  refine lv_istore_n (lv' := [(3, .int (t1 + t0)), (0, .ref (q 0)), (1, .int v1), (2, .int v2), (4, .int v4)]) hx hb dX7_ageBy_41 rfl hl (by decide) rfl (fun ls hl => ?_)
  refine lv_iinc (v := v4 + (1 : Int32)) (lv' := [(4, .int (v4 + (1 : Int32))), (3, .int (t1 + t0)), (0, .ref (q 0)), (1, .int v1), (2, .int v2)]) hx hb dX7_ageBy_42 hl (k := 4) rfl rfl (by decide) rfl (fun ls hl => ?_)
  refine lv_goto (tgt := 10) hx hb dX7_ageBy_45 (by decide) ?_
  exact hrc10 (t1 + t0) (v4 + (1 : Int32)) hD _ _ _ I (lv_sub hl [2, 3, 4, 1, 0] rfl)
def D_X7_ageBy_10b (σ : St) (rc10 : Int32 → Int32 → Option Int32) (v1 : Int32) (v2 : Int32) (v3 : Int32) (v4 : Int32) : Option Int32 := if (σ 0 2) ≤ v4 then some v3 else (D_X7_isIn σ v2 v4).bind fun y17 => if y17 = 0 then D_X7_ageBy_40 σ rc10 v1 v2 v4 (0 : Int32) v3 else (D_X7_gainOf σ v1 v4).bind fun y23 => D_X7_ageBy_40 σ rc10 v1 v2 v4 y23 v3
set_option maxRecDepth 100000 in
set_option maxHeartbeats 4000000 in
theorem w_X7_ageBy_10b {p : Program} {l : Launch} {e : Env} {s : State} {m : MethodId} {args : Array Value} {below : List Frame} {meth : Method} {c : Code} (g : Gh) (q : Nat → Nat) (X : MX p s m args meth c cX7_ageBy 5 (some .int) RX7) {rr : Int32} (σ : St)  (v1 : Int32) (v2 : Int32) (v3 : Int32) (v4 : Int32) (rc10 : Int32 → Int32 → Option Int32) (hrc10 : ∀ (v3' : Int32) (v4' : Int32), rc10 v3' v4' = some rr → ∀ (H : Heap) (locs : List Loc) (ls : Array Slot), IM g q s σ H locs → lv_has ls 5 [(0, .ref (q 0)), (1, .int v1), (2, .int v2), (3, .int v3'), (4, .int v4')] → W p l e (rmD 1) s m args below meth c H locs 0 0 (MQ below (QI g (eM g q) q 22 rr σ s.heap.size) args s 0 0 (AQ q 22 s.heap.size)) (F0 m 10 ls [])) (hD : D_X7_ageBy_10b σ rc10 v1 v2 v3 v4 = some rr) (H : Heap) (locs : List Loc) (ls : Array Slot) (I : IM g q s σ H locs) (hl : lv_has ls 5 [(0, .ref (q 0)), (1, .int v1), (2, .int v2), (3, .int v3), (4, .int v4)]) : W p l e (rmD 1) s m args below meth c H locs 0 0 (MQ below (QI g (eM g q) q 22 rr σ s.heap.size) args s 0 0 (AQ q 22 s.heap.size)) (F0 m 10 ls []) := by
  have hx := X.1
  have hb := X.2.1
  unfold D_X7_ageBy_10b at hD
  refine lv_iload hx hb dX7_ageBy_10 (lv_at hl 4 rfl) ?_
  refine lv_aload_n hx hb dX7_ageBy_12 rfl (lv_at hl 0 rfl) ?_
  refine g_Model_sections X I fl_X7_84 dX7_ageBy_13 ?_
  refine lv_icmp_ge (tgt := 48) hx hb dX7_ageBy_16 (by decide) (fun hc11 => ?_) (fun hc11 => ?_)
  · have hD := ite_p hc11 hD
    refine lv_iload_n hx hb dX7_ageBy_48 rfl (lv_at hl 3 rfl) ?_
    exact r_iret X I hD dX7_ageBy_49
  · have hD := ite_n hc11 hD
    refine lv_iload_n hx hb dX7_ageBy_19 rfl (lv_at hl 3 rfl) ?_
    refine lv_iload_n hx hb dX7_ageBy_20 rfl (lv_at hl 2 rfl) ?_
    refine lv_iload hx hb dX7_ageBy_21 (lv_at hl 4 rfl) ?_
    obtain ⟨y17, hy17, hD⟩ := bd_s hD
    refine r_calli (r_runS (As := [.int v2, .int v4]) (rest := [.int v3]) X I (c_X7_isIn l g q _ σ v2 v4 hy17) ks_X7_isIn ml_X7_171 ⟨Nat.le_of_ble_eq_true rfl, Nat.le_of_ble_eq_true rfl⟩ ⟨Nat.zero_le _, Nat.zero_le _⟩ rfl rfl hl.1 (Nat.le_of_ble_eq_true rfl) dX7_ageBy_23) I (fun H locs I => ?_)
    refine lv_if_eq (tgt := 39) hx hb dX7_ageBy_26 (by decide) (fun hc18 => ?_) (fun hc18 => ?_)
    · have hD := ite_p hc18 hD
      refine lv_iconst (v := 0) hx hb dX7_ageBy_39 (by decide) ?_
      exact w_X7_ageBy_40 g q X σ v1 v2 v4 (0 : Int32) v3 rc10 hrc10 hD _ _ _ I (lv_sub hl [0, 1, 2, 4] rfl)
    · have hD := ite_n hc18 hD
      refine lv_aload_n hx hb dX7_ageBy_29 rfl (lv_at hl 0 rfl) ?_
      refine lv_iload_n hx hb dX7_ageBy_30 rfl (lv_at hl 1 rfl) ?_
      refine lv_iload hx hb dX7_ageBy_31 (lv_at hl 4 rfl) ?_
      obtain ⟨y23, hy23, hD⟩ := bd_s hD
      refine r_calli (r_runV (As := [.int v1, .int v4]) (rest := [.int v3]) X I (c_X7_gainOf l g q _ σ v1 v4 hy23) kv_X7_gainOf ml_X7_168 rfl (by decide) (eM_Model g q _) ⟨Nat.le_of_ble_eq_true rfl, Nat.le_of_ble_eq_true rfl⟩ ⟨Nat.zero_le _, Nat.zero_le _⟩ rfl rfl hl.1 (Nat.le_of_ble_eq_true rfl) dX7_ageBy_33) I (fun H locs I => ?_)
      refine lv_goto (tgt := 40) hx hb dX7_ageBy_36 (by decide) ?_
      exact w_X7_ageBy_40 g q X σ v1 v2 v4 y23 v3 rc10 hrc10 hD _ _ _ I (lv_sub hl [0, 1, 2, 4] rfl)
def D_X7_ageBy_10 (σ : St) (v1 : Int32) (v2 : Int32) : Nat → Int32 → Int32 → Option Int32
  | 0 => fun _ _ => none
  | n + 1 => fun v3 v4 => D_X7_ageBy_10b σ (D_X7_ageBy_10 σ v1 v2 n) v1 v2 v3 v4
set_option maxRecDepth 100000 in
set_option maxHeartbeats 4000000 in
theorem w_X7_ageBy_10 {p : Program} {l : Launch} {e : Env} {s : State} {m : MethodId} {args : Array Value} {below : List Frame} {meth : Method} {c : Code} (g : Gh) (q : Nat → Nat) (X : MX p s m args meth c cX7_ageBy 5 (some .int) RX7) {rr : Int32} (σ : St)  (v1 : Int32) (v2 : Int32) : ∀ (n : Nat) (v3 : Int32) (v4 : Int32), D_X7_ageBy_10 σ v1 v2 n v3 v4 = some rr → ∀ (H : Heap) (locs : List Loc) (ls : Array Slot), IM g q s σ H locs → lv_has ls 5 [(0, .ref (q 0)), (1, .int v1), (2, .int v2), (3, .int v3), (4, .int v4)] → W p l e (rmD 1) s m args below meth c H locs 0 0 (MQ below (QI g (eM g q) q 22 rr σ s.heap.size) args s 0 0 (AQ q 22 s.heap.size)) (F0 m 10 ls []) := by
  intro n
  induction n with
  | zero =>
    intro v3 v4 hD H locs ls I hl
    cases hD
  | succ n ih =>
    intro v3 v4 hD H locs ls I hl
    exact w_X7_ageBy_10b g q X σ v1 v2 v3 v4 _ ih hD H locs ls I hl
def D_X7_ageBy (σ : St) (p1 : Int32) (p2 : Int32) : Option Int32 := gd (inb p1 4) (D_X7_ageBy_10 σ p1 p2 FU (σ 5 p1.toNatClampNeg) (0 : Int32))
set_option maxRecDepth 100000 in
set_option maxHeartbeats 4000000 in
theorem c_X7_ageBy (l : Launch) (g : Gh) (q : Nat → Nat) (sz : Nat) (σ : St) (p1 : Int32) (p2 : Int32) {rr : Int32} (hD : D_X7_ageBy σ p1 p2 = some rr) : Met l yX7_ageBy (wU yX7_ageBy cX7_ageBy 5 (some .int)) (rmD 1) (PQ g (eM g q) q 22 σ sz [.ref (q 0), .int p1, .int p2]) (QI g (eM g q) q 22 rr σ sz) 0 0 (AQ q 22 sz) := by
  refine met_of (Qc := QI g (eM g q) q 22 rr σ) (by decide) (Nat.le_of_ble_eq_true rfl) ?_
  intro p e s m below meth c ls X I hl
  have hx := X.1
  have hb := X.2.1
  have hl : lv_has ls 5 [(0, .ref (q 0)), (1, .int p1), (2, .int p2)] := hl
  unfold D_X7_ageBy at hD
  refine lv_aload_n hx hb dX7_ageBy_0 rfl (lv_at hl 0 rfl) ?_
  refine g_Model_ageOf X I fl_X7_22 dX7_ageBy_1 ?_
  refine lv_iload_n hx hb dX7_ageBy_4 rfl (lv_at hl 1 rfl) ?_
  obtain ⟨hg4, hD⟩ := gd_s hD
  refine r_iald X I (by decide) ((eMa_5 g q) _) hg4 dX7_ageBy_5 ?_
  refine lv_istore_n (lv' := [(3, .int (σ 5 p1.toNatClampNeg)), (0, .ref (q 0)), (1, .int p1), (2, .int p2)]) hx hb dX7_ageBy_6 rfl hl (by decide) rfl (fun ls hl => ?_)
  refine lv_iconst (v := 0) hx hb dX7_ageBy_7 (by decide) ?_
  refine lv_istore (lv' := [(4, .int (0 : Int32)), (3, .int (σ 5 p1.toNatClampNeg)), (0, .ref (q 0)), (1, .int p1), (2, .int p2)]) hx hb dX7_ageBy_8 hl (by decide) rfl (fun ls hl => ?_)
  exact w_X7_ageBy_10 g q X σ p1 p2 FU (σ 5 p1.toNatClampNeg) (0 : Int32) hD _ _ _ I (lv_sub hl [2, 3, 4, 1, 0] rfl)

/-! YearDeckModel.age(II)I -/
def D_X7_age (σ : St) (p1 : Int32) (p2 : Int32) : Option Int32 := (D_X7_noRider σ p1).bind fun y3 => if y3 = 0 then (D_X7_noSetOf σ p1 p2).bind fun y8 => if y8 = 0 then (D_X7_ageBy σ p1 p2).bind fun y13 => some y13 else some (-2 : Int32) else some (-1 : Int32)
set_option maxRecDepth 100000 in
set_option maxHeartbeats 4000000 in
theorem c_X7_age (l : Launch) (g : Gh) (q : Nat → Nat) (sz : Nat) (σ : St) (p1 : Int32) (p2 : Int32) {rr : Int32} (hD : D_X7_age σ p1 p2 = some rr) : Met l yX7_age (wU yX7_age cX7_age 3 (some .int)) (rmD 2) (PQ g (eM g q) q 22 σ sz [.ref (q 0), .int p1, .int p2]) (QI g (eM g q) q 22 rr σ sz) 0 0 (AQ q 22 sz) := by
  refine met_of (Qc := QI g (eM g q) q 22 rr σ) (by decide) (Nat.le_of_ble_eq_true rfl) ?_
  intro p e s m below meth c ls X I hl
  have hx := X.1
  have hb := X.2.1
  have hl : lv_has ls 3 [(0, .ref (q 0)), (1, .int p1), (2, .int p2)] := hl
  unfold D_X7_age at hD
  refine lv_aload_n hx hb dX7_age_0 rfl (lv_at hl 0 rfl) ?_
  refine lv_iload_n hx hb dX7_age_1 rfl (lv_at hl 1 rfl) ?_
  obtain ⟨y3, hy3, hD⟩ := bd_s hD
  refine r_calli (r_runV (As := [.int p1]) (rest := []) X I (c_X7_noRider l g q _ σ p1 hy3) kv_X7_noRider ml_X7_158 rfl (by decide) (eM_Model g q _) ⟨Nat.le_of_ble_eq_true rfl, Nat.le_of_ble_eq_true rfl⟩ ⟨Nat.zero_le _, Nat.zero_le _⟩ rfl rfl hl.1 (Nat.le_of_ble_eq_true rfl) dX7_age_2) I (fun H locs I => ?_)
  refine lv_if_eq (tgt := 10) hx hb dX7_age_5 (by decide) (fun hc4 => ?_) (fun hc4 => ?_)
  · have hD := ite_p hc4 hD
    refine lv_aload_n hx hb dX7_age_10 rfl (lv_at hl 0 rfl) ?_
    refine lv_iload_n hx hb dX7_age_11 rfl (lv_at hl 1 rfl) ?_
    refine lv_iload_n hx hb dX7_age_12 rfl (lv_at hl 2 rfl) ?_
    obtain ⟨y8, hy8, hD⟩ := bd_s hD
    refine r_calli (r_runV (As := [.int p1, .int p2]) (rest := []) X I (c_X7_noSetOf l g q _ σ p1 p2 hy8) kv_X7_noSetOf ml_X7_174 rfl (by decide) (eM_Model g q _) ⟨Nat.le_of_ble_eq_true rfl, Nat.le_of_ble_eq_true rfl⟩ ⟨Nat.zero_le _, Nat.zero_le _⟩ rfl rfl hl.1 (Nat.le_of_ble_eq_true rfl) dX7_age_13) I (fun H locs I => ?_)
    refine lv_if_eq (tgt := 24) hx hb dX7_age_16 (by decide) (fun hc9 => ?_) (fun hc9 => ?_)
    · have hD := ite_p hc9 hD
      refine lv_aload_n hx hb dX7_age_24 rfl (lv_at hl 0 rfl) ?_
      refine lv_iload_n hx hb dX7_age_25 rfl (lv_at hl 1 rfl) ?_
      refine lv_iload_n hx hb dX7_age_26 rfl (lv_at hl 2 rfl) ?_
      obtain ⟨y13, hy13, hD⟩ := bd_s hD
      refine r_calli (r_runV (As := [.int p1, .int p2]) (rest := []) X I (c_X7_ageBy l g q _ σ p1 p2 hy13) kv_X7_ageBy ml_X7_177 rfl (by decide) (eM_Model g q _) ⟨Nat.le_of_ble_eq_true rfl, Nat.le_of_ble_eq_true rfl⟩ ⟨Nat.zero_le _, Nat.zero_le _⟩ rfl rfl hl.1 (Nat.le_of_ble_eq_true rfl) dX7_age_27) I (fun H locs I => ?_)
      exact r_iret X I hD dX7_age_30
    · have hD := ite_n hc9 hD
      refine lv_bipush (v := -2) hx hb dX7_age_19 (by decide) ?_
      refine lv_goto (tgt := 30) hx hb dX7_age_21 (by decide) ?_
      exact r_iret X I hD dX7_age_30
  · have hD := ite_n hc4 hD
    refine lv_iconst (v := -1) hx hb dX7_age_8 (by decide) ?_
    exact r_iret X I hD dX7_age_9

/-! YearDeckModel.aboveOn(II)I -/
def D_X7_aboveOn_5b (σ : St) (rc5 : Int32 → Int32 → Option Int32) (v1 : Int32) (v2 : Int32) (v3 : Int32) (v4 : Int32) : Option Int32 := if (σ 0 4) ≤ v4 then some v3 else gd (inb (v2 + v4) 240) (rc5 (v3 + (((σ 20 (v2 + v4).toNatClampNeg) >>> (v1 &&& 31)) &&& (1 : Int32))) (v4 + (1 : Int32)))
set_option maxRecDepth 100000 in
set_option maxHeartbeats 4000000 in
theorem w_X7_aboveOn_5b {p : Program} {l : Launch} {e : Env} {s : State} {m : MethodId} {args : Array Value} {below : List Frame} {meth : Method} {c : Code} (g : Gh) (q : Nat → Nat) (X : MX p s m args meth c cX7_aboveOn 5 (some .int) RX7) {rr : Int32} (σ : St)  (v1 : Int32) (v2 : Int32) (v3 : Int32) (v4 : Int32) (rc5 : Int32 → Int32 → Option Int32) (hrc5 : ∀ (v3' : Int32) (v4' : Int32), rc5 v3' v4' = some rr → ∀ (H : Heap) (locs : List Loc) (ls : Array Slot), IM g q s σ H locs → lv_has ls 5 [(0, .ref (q 0)), (1, .int v1), (2, .int v2), (3, .int v3'), (4, .int v4')] → W p l e (rmD 0) s m args below meth c H locs 0 0 (MQ below (QI g (eM g q) q 22 rr σ s.heap.size) args s 0 0 (AQ q 22 s.heap.size)) (F0 m 5 ls [])) (hD : D_X7_aboveOn_5b σ rc5 v1 v2 v3 v4 = some rr) (H : Heap) (locs : List Loc) (ls : Array Slot) (I : IM g q s σ H locs) (hl : lv_has ls 5 [(0, .ref (q 0)), (1, .int v1), (2, .int v2), (3, .int v3), (4, .int v4)]) : W p l e (rmD 0) s m args below meth c H locs 0 0 (MQ below (QI g (eM g q) q 22 rr σ s.heap.size) args s 0 0 (AQ q 22 s.heap.size)) (F0 m 5 ls []) := by
  have hx := X.1
  have hb := X.2.1
  unfold D_X7_aboveOn_5b at hD
  refine lv_iload hx hb dX7_aboveOn_5 (lv_at hl 4 rfl) ?_
  refine lv_aload_n hx hb dX7_aboveOn_7 rfl (lv_at hl 0 rfl) ?_
  refine g_Model_riders X I fl_X7_91 dX7_aboveOn_8 ?_
  refine lv_icmp_ge (tgt := 36) hx hb dX7_aboveOn_11 (by decide) (fun hc8 => ?_) (fun hc8 => ?_)
  · have hD := ite_p hc8 hD
    refine lv_iload_n hx hb dX7_aboveOn_36 rfl (lv_at hl 3 rfl) ?_
    exact r_iret X I hD dX7_aboveOn_37
  · have hD := ite_n hc8 hD
    refine lv_iload_n hx hb dX7_aboveOn_14 rfl (lv_at hl 3 rfl) ?_
    refine lv_aload_n hx hb dX7_aboveOn_15 rfl (lv_at hl 0 rfl) ?_
    refine g_Model_sheet X I fl_X7_68 dX7_aboveOn_16 ?_
    refine lv_iload_n hx hb dX7_aboveOn_19 rfl (lv_at hl 2 rfl) ?_
    refine lv_iload hx hb dX7_aboveOn_20 (lv_at hl 4 rfl) ?_
    refine lv_iadd hx hb dX7_aboveOn_22 ?_
    obtain ⟨hg17, hD⟩ := gd_s hD
    refine r_iald X I (by decide) ((eMa_20 g q) _) hg17 dX7_aboveOn_23 ?_
    refine lv_iload_n hx hb dX7_aboveOn_24 rfl (lv_at hl 1 rfl) ?_
    refine lv_ishr hx hb dX7_aboveOn_25 ?_
    refine lv_iconst (v := 1) hx hb dX7_aboveOn_26 (by decide) ?_
    refine lv_iand hx hb dX7_aboveOn_27 ?_
    refine lv_iadd hx hb dX7_aboveOn_28 ?_
    refine lv_istore_n (lv' := [(3, .int (v3 + (((σ 20 (v2 + v4).toNatClampNeg) >>> (v1 &&& 31)) &&& (1 : Int32)))), (0, .ref (q 0)), (1, .int v1), (2, .int v2), (4, .int v4)]) hx hb dX7_aboveOn_29 rfl hl (by decide) rfl (fun ls hl => ?_)
    refine lv_iinc (v := v4 + (1 : Int32)) (lv' := [(4, .int (v4 + (1 : Int32))), (3, .int (v3 + (((σ 20 (v2 + v4).toNatClampNeg) >>> (v1 &&& 31)) &&& (1 : Int32)))), (0, .ref (q 0)), (1, .int v1), (2, .int v2)]) hx hb dX7_aboveOn_30 hl (k := 4) rfl rfl (by decide) rfl (fun ls hl => ?_)
    refine lv_goto (tgt := 5) hx hb dX7_aboveOn_33 (by decide) ?_
    exact hrc5 (v3 + (((σ 20 (v2 + v4).toNatClampNeg) >>> (v1 &&& 31)) &&& (1 : Int32))) (v4 + (1 : Int32)) hD _ _ _ I (lv_sub hl [2, 3, 4, 1, 0] rfl)
def D_X7_aboveOn_5 (σ : St) (v1 : Int32) (v2 : Int32) : Nat → Int32 → Int32 → Option Int32
  | 0 => fun _ _ => none
  | n + 1 => fun v3 v4 => D_X7_aboveOn_5b σ (D_X7_aboveOn_5 σ v1 v2 n) v1 v2 v3 v4
set_option maxRecDepth 100000 in
set_option maxHeartbeats 4000000 in
theorem w_X7_aboveOn_5 {p : Program} {l : Launch} {e : Env} {s : State} {m : MethodId} {args : Array Value} {below : List Frame} {meth : Method} {c : Code} (g : Gh) (q : Nat → Nat) (X : MX p s m args meth c cX7_aboveOn 5 (some .int) RX7) {rr : Int32} (σ : St)  (v1 : Int32) (v2 : Int32) : ∀ (n : Nat) (v3 : Int32) (v4 : Int32), D_X7_aboveOn_5 σ v1 v2 n v3 v4 = some rr → ∀ (H : Heap) (locs : List Loc) (ls : Array Slot), IM g q s σ H locs → lv_has ls 5 [(0, .ref (q 0)), (1, .int v1), (2, .int v2), (3, .int v3), (4, .int v4)] → W p l e (rmD 0) s m args below meth c H locs 0 0 (MQ below (QI g (eM g q) q 22 rr σ s.heap.size) args s 0 0 (AQ q 22 s.heap.size)) (F0 m 5 ls []) := by
  intro n
  induction n with
  | zero =>
    intro v3 v4 hD H locs ls I hl
    cases hD
  | succ n ih =>
    intro v3 v4 hD H locs ls I hl
    exact w_X7_aboveOn_5b g q X σ v1 v2 v3 v4 _ ih hD H locs ls I hl
def D_X7_aboveOn (σ : St) (p1 : Int32) (p2 : Int32) : Option Int32 := D_X7_aboveOn_5 σ p1 p2 FU (0 : Int32) (0 : Int32)
set_option maxRecDepth 100000 in
set_option maxHeartbeats 4000000 in
theorem c_X7_aboveOn (l : Launch) (g : Gh) (q : Nat → Nat) (sz : Nat) (σ : St) (p1 : Int32) (p2 : Int32) {rr : Int32} (hD : D_X7_aboveOn σ p1 p2 = some rr) : Met l yX7_aboveOn (wU yX7_aboveOn cX7_aboveOn 5 (some .int)) (rmD 0) (PQ g (eM g q) q 22 σ sz [.ref (q 0), .int p1, .int p2]) (QI g (eM g q) q 22 rr σ sz) 0 0 (AQ q 22 sz) := by
  refine met_of (Qc := QI g (eM g q) q 22 rr σ) (by decide) (Nat.le_of_ble_eq_true rfl) ?_
  intro p e s m below meth c ls X I hl
  have hx := X.1
  have hb := X.2.1
  have hl : lv_has ls 5 [(0, .ref (q 0)), (1, .int p1), (2, .int p2)] := hl
  unfold D_X7_aboveOn at hD
  refine lv_iconst (v := 0) hx hb dX7_aboveOn_0 (by decide) ?_
  refine lv_istore_n (lv' := [(3, .int (0 : Int32)), (0, .ref (q 0)), (1, .int p1), (2, .int p2)]) hx hb dX7_aboveOn_1 rfl hl (by decide) rfl (fun ls hl => ?_)
  refine lv_iconst (v := 0) hx hb dX7_aboveOn_2 (by decide) ?_
  refine lv_istore (lv' := [(4, .int (0 : Int32)), (3, .int (0 : Int32)), (0, .ref (q 0)), (1, .int p1), (2, .int p2)]) hx hb dX7_aboveOn_3 hl (by decide) rfl (fun ls hl => ?_)
  exact w_X7_aboveOn_5 g q X σ p1 p2 FU (0 : Int32) (0 : Int32) hD _ _ _ I (lv_sub hl [2, 3, 4, 1, 0] rfl)

/-! YearDeckModel.wrongIn(I)I -/
def D_X7_wrongIn_32 (σ : St) (rc10 : Int32 → Int32 → Option Int32) (v1 : Int32) (v3 : Int32) (t0 : Int32) : Option Int32 := rc10 t0 (v3 + (-1 : Int32))
set_option maxRecDepth 100000 in
set_option maxHeartbeats 4000000 in
theorem w_X7_wrongIn_32 {p : Program} {l : Launch} {e : Env} {s : State} {m : MethodId} {args : Array Value} {below : List Frame} {meth : Method} {c : Code} (g : Gh) (q : Nat → Nat) (X : MX p s m args meth c cX7_wrongIn 4 (some .int) RX7) {rr : Int32} (σ : St)  (v1 : Int32) (v3 : Int32) (t0 : Int32) (rc10 : Int32 → Int32 → Option Int32) (hrc10 : ∀ (v2' : Int32) (v3' : Int32), rc10 v2' v3' = some rr → ∀ (H : Heap) (locs : List Loc) (ls : Array Slot), IM g q s σ H locs → lv_has ls 4 [(0, .ref (q 0)), (1, .int v1), (2, .int v2'), (3, .int v3')] → W p l e (rmD 1) s m args below meth c H locs 0 0 (MQ below (QI g (eM g q) q 22 rr σ s.heap.size) args s 0 0 (AQ q 22 s.heap.size)) (F0 m 10 ls [])) (hD : D_X7_wrongIn_32 σ rc10 v1 v3 t0 = some rr) (H : Heap) (locs : List Loc) (ls : Array Slot) (I : IM g q s σ H locs) (hl : lv_has ls 4 [(0, .ref (q 0)), (1, .int v1), (3, .int v3)]) : W p l e (rmD 1) s m args below meth c H locs 0 0 (MQ below (QI g (eM g q) q 22 rr σ s.heap.size) args s 0 0 (AQ q 22 s.heap.size)) (F0 m 32 ls [.int t0]) := by
  have hx := X.1
  have hb := X.2.1
  unfold D_X7_wrongIn_32 at hD
  refine lv_istore_n (lv' := [(2, .int t0), (0, .ref (q 0)), (1, .int v1), (3, .int v3)]) hx hb dX7_wrongIn_32 rfl hl (by decide) rfl (fun ls hl => ?_)
  refine lv_iinc (v := v3 + (-1 : Int32)) (lv' := [(3, .int (v3 + (-1 : Int32))), (2, .int t0), (0, .ref (q 0)), (1, .int v1)]) hx hb dX7_wrongIn_33 hl (k := 3) rfl rfl (by decide) rfl (fun ls hl => ?_)
  refine lv_goto (tgt := 10) hx hb dX7_wrongIn_36 (by decide) ?_
  exact hrc10 t0 (v3 + (-1 : Int32)) hD _ _ _ I (lv_sub hl [2, 3, 1, 0] rfl)
def D_X7_wrongIn_10b (σ : St) (rc10 : Int32 → Int32 → Option Int32) (v1 : Int32) (v2 : Int32) (v3 : Int32) : Option Int32 := if v3 < 0 then some v2 else (D_X7_aboveOn σ v3 v1).bind fun y15 => if y15 ≤ (σ 0 1) then D_X7_wrongIn_32 σ rc10 v1 v3 v2 else D_X7_wrongIn_32 σ rc10 v1 v3 v3
set_option maxRecDepth 100000 in
set_option maxHeartbeats 4000000 in
theorem w_X7_wrongIn_10b {p : Program} {l : Launch} {e : Env} {s : State} {m : MethodId} {args : Array Value} {below : List Frame} {meth : Method} {c : Code} (g : Gh) (q : Nat → Nat) (X : MX p s m args meth c cX7_wrongIn 4 (some .int) RX7) {rr : Int32} (σ : St)  (v1 : Int32) (v2 : Int32) (v3 : Int32) (rc10 : Int32 → Int32 → Option Int32) (hrc10 : ∀ (v2' : Int32) (v3' : Int32), rc10 v2' v3' = some rr → ∀ (H : Heap) (locs : List Loc) (ls : Array Slot), IM g q s σ H locs → lv_has ls 4 [(0, .ref (q 0)), (1, .int v1), (2, .int v2'), (3, .int v3')] → W p l e (rmD 1) s m args below meth c H locs 0 0 (MQ below (QI g (eM g q) q 22 rr σ s.heap.size) args s 0 0 (AQ q 22 s.heap.size)) (F0 m 10 ls [])) (hD : D_X7_wrongIn_10b σ rc10 v1 v2 v3 = some rr) (H : Heap) (locs : List Loc) (ls : Array Slot) (I : IM g q s σ H locs) (hl : lv_has ls 4 [(0, .ref (q 0)), (1, .int v1), (2, .int v2), (3, .int v3)]) : W p l e (rmD 1) s m args below meth c H locs 0 0 (MQ below (QI g (eM g q) q 22 rr σ s.heap.size) args s 0 0 (AQ q 22 s.heap.size)) (F0 m 10 ls []) := by
  have hx := X.1
  have hb := X.2.1
  unfold D_X7_wrongIn_10b at hD
  refine lv_iload_n hx hb dX7_wrongIn_10 rfl (lv_at hl 3 rfl) ?_
  refine lv_if_lt (tgt := 39) hx hb dX7_wrongIn_11 (by decide) (fun hc9 => ?_) (fun hc9 => ?_)
  · have hD := ite_p hc9 hD
    refine lv_iload_n hx hb dX7_wrongIn_39 rfl (lv_at hl 2 rfl) ?_
    exact r_iret X I hD dX7_wrongIn_40
  · have hD := ite_n hc9 hD
    refine lv_aload_n hx hb dX7_wrongIn_14 rfl (lv_at hl 0 rfl) ?_
    refine lv_iload_n hx hb dX7_wrongIn_15 rfl (lv_at hl 3 rfl) ?_
    refine lv_iload_n hx hb dX7_wrongIn_16 rfl (lv_at hl 1 rfl) ?_
    obtain ⟨y15, hy15, hD⟩ := bd_s hD
    refine r_calli (r_runV (As := [.int v3, .int v1]) (rest := []) X I (c_X7_aboveOn l g q _ σ v3 v1 hy15) kv_X7_aboveOn ml_X7_180 rfl (by decide) (eM_Model g q _) ⟨Nat.le_of_ble_eq_true rfl, Nat.le_of_ble_eq_true rfl⟩ ⟨Nat.zero_le _, Nat.zero_le _⟩ rfl rfl hl.1 (Nat.le_of_ble_eq_true rfl) dX7_wrongIn_17) I (fun H locs I => ?_)
    refine lv_aload_n hx hb dX7_wrongIn_20 rfl (lv_at hl 0 rfl) ?_
    refine g_Model_seats X I fl_X7_152 dX7_wrongIn_21 ?_
    refine lv_icmp_le (tgt := 31) hx hb dX7_wrongIn_24 (by decide) (fun hc18 => ?_) (fun hc18 => ?_)
    · have hD := ite_p hc18 hD
      refine lv_iload_n hx hb dX7_wrongIn_31 rfl (lv_at hl 2 rfl) ?_
      exact w_X7_wrongIn_32 g q X σ v1 v3 v2 rc10 hrc10 hD _ _ _ I (lv_sub hl [0, 1, 3] rfl)
    · have hD := ite_n hc18 hD
      refine lv_iload_n hx hb dX7_wrongIn_27 rfl (lv_at hl 3 rfl) ?_
      refine lv_goto (tgt := 32) hx hb dX7_wrongIn_28 (by decide) ?_
      exact w_X7_wrongIn_32 g q X σ v1 v3 v3 rc10 hrc10 hD _ _ _ I (lv_sub hl [0, 1, 3] rfl)
def D_X7_wrongIn_10 (σ : St) (v1 : Int32) : Nat → Int32 → Int32 → Option Int32
  | 0 => fun _ _ => none
  | n + 1 => fun v2 v3 => D_X7_wrongIn_10b σ (D_X7_wrongIn_10 σ v1 n) v1 v2 v3
set_option maxRecDepth 100000 in
set_option maxHeartbeats 4000000 in
theorem w_X7_wrongIn_10 {p : Program} {l : Launch} {e : Env} {s : State} {m : MethodId} {args : Array Value} {below : List Frame} {meth : Method} {c : Code} (g : Gh) (q : Nat → Nat) (X : MX p s m args meth c cX7_wrongIn 4 (some .int) RX7) {rr : Int32} (σ : St)  (v1 : Int32) : ∀ (n : Nat) (v2 : Int32) (v3 : Int32), D_X7_wrongIn_10 σ v1 n v2 v3 = some rr → ∀ (H : Heap) (locs : List Loc) (ls : Array Slot), IM g q s σ H locs → lv_has ls 4 [(0, .ref (q 0)), (1, .int v1), (2, .int v2), (3, .int v3)] → W p l e (rmD 1) s m args below meth c H locs 0 0 (MQ below (QI g (eM g q) q 22 rr σ s.heap.size) args s 0 0 (AQ q 22 s.heap.size)) (F0 m 10 ls []) := by
  intro n
  induction n with
  | zero =>
    intro v2 v3 hD H locs ls I hl
    cases hD
  | succ n ih =>
    intro v2 v3 hD H locs ls I hl
    exact w_X7_wrongIn_10b g q X σ v1 v2 v3 _ ih hD H locs ls I hl
def D_X7_wrongIn (σ : St) (p1 : Int32) : Option Int32 := D_X7_wrongIn_10 σ p1 FU (-9 : Int32) ((σ 0 2) - (1 : Int32))
set_option maxRecDepth 100000 in
set_option maxHeartbeats 4000000 in
theorem c_X7_wrongIn (l : Launch) (g : Gh) (q : Nat → Nat) (sz : Nat) (σ : St) (p1 : Int32) {rr : Int32} (hD : D_X7_wrongIn σ p1 = some rr) : Met l yX7_wrongIn (wU yX7_wrongIn cX7_wrongIn 4 (some .int)) (rmD 1) (PQ g (eM g q) q 22 σ sz [.ref (q 0), .int p1]) (QI g (eM g q) q 22 rr σ sz) 0 0 (AQ q 22 sz) := by
  refine met_of (Qc := QI g (eM g q) q 22 rr σ) (by decide) (Nat.le_of_ble_eq_true rfl) ?_
  intro p e s m below meth c ls X I hl
  have hx := X.1
  have hb := X.2.1
  have hl : lv_has ls 4 [(0, .ref (q 0)), (1, .int p1)] := hl
  unfold D_X7_wrongIn at hD
  refine lv_bipush (v := -9) hx hb dX7_wrongIn_0 (by decide) ?_
  refine lv_istore_n (lv' := [(2, .int (-9 : Int32)), (0, .ref (q 0)), (1, .int p1)]) hx hb dX7_wrongIn_2 rfl hl (by decide) rfl (fun ls hl => ?_)
  refine lv_aload_n hx hb dX7_wrongIn_3 rfl (lv_at hl 1 rfl) ?_
  refine g_Model_sections X I fl_X7_84 dX7_wrongIn_4 ?_
  refine lv_iconst (v := 1) hx hb dX7_wrongIn_7 (by decide) ?_
  refine lv_isub hx hb dX7_wrongIn_8 ?_
  refine lv_istore_n (lv' := [(3, .int ((σ 0 2) - (1 : Int32))), (2, .int (-9 : Int32)), (0, .ref (q 0)), (1, .int p1)]) hx hb dX7_wrongIn_9 rfl hl (by decide) rfl (fun ls hl => ?_)
  exact w_X7_wrongIn_10 g q X σ p1 FU (-9 : Int32) ((σ 0 2) - (1 : Int32)) hD _ _ _ I (lv_sub hl [2, 3, 1, 0] rfl)

/-! YearDeckModel.sitBy(II)I -/
def D_X7_sitBy_191 (σ : St) (v2 : Int32) (v4 : Int32) (v5 : Int32) : Option Int32 := if v2 = 0 then (D_X7_bits σ v4).bind fun y104 => some y104 else if v2 = (2 : Int32) then some v4 else some v5
set_option maxRecDepth 100000 in
set_option maxHeartbeats 4000000 in
theorem w_X7_sitBy_191 {p : Program} {l : Launch} {e : Env} {s : State} {m : MethodId} {args : Array Value} {below : List Frame} {meth : Method} {c : Code} (g : Gh) (q : Nat → Nat) (X : MX p s m args meth c cX7_sitBy 8 (some .int) RX7) {rr : Int32} (σ : St)  (v2 : Int32) (v4 : Int32) (v5 : Int32) (hD : D_X7_sitBy_191 σ v2 v4 v5 = some rr) (H : Heap) (locs : List Loc) (ls : Array Slot) (I : IM g q s σ H locs) (hl : lv_has ls 8 [(2, .int v2), (4, .int v4), (5, .int v5)]) : W p l e (rmD 2) s m args below meth c H locs 0 0 (MQ below (QI g (eM g q) q 22 rr σ s.heap.size) args s 0 0 (AQ q 22 s.heap.size)) (F0 m 191 ls []) := by
  have hx := X.1
  have hb := X.2.1
  unfold D_X7_sitBy_191 at hD
  refine lv_iload_n hx hb dX7_sitBy_191 rfl (lv_at hl 0 rfl) ?_
  refine lv_if_ne (tgt := 203) hx hb dX7_sitBy_192 (by decide) (fun hc94 => ?_) (fun hc94 => ?_)
  · have hD := ite_n hc94 hD
    refine lv_iload_n hx hb dX7_sitBy_203 rfl (lv_at hl 0 rfl) ?_
    refine lv_iconst (v := 2) hx hb dX7_sitBy_204 (by decide) ?_
    refine lv_icmp_ne (tgt := 213) hx hb dX7_sitBy_205 (by decide) (fun hc97 => ?_) (fun hc97 => ?_)
    · have hD := ite_n hc97 hD
      refine lv_iload hx hb dX7_sitBy_213 (lv_at hl 2 rfl) ?_
      exact r_iret X I hD dX7_sitBy_215
    · have hD := ite_p hc97 hD
      refine lv_iload hx hb dX7_sitBy_208 (lv_at hl 1 rfl) ?_
      refine lv_goto (tgt := 215) hx hb dX7_sitBy_210 (by decide) ?_
      exact r_iret X I hD dX7_sitBy_215
  · have hD := ite_p hc94 hD
    refine lv_iload hx hb dX7_sitBy_195 (lv_at hl 1 rfl) ?_
    obtain ⟨y104, hy104, hD⟩ := bd_s hD
    refine r_calli (r_runS (As := [.int v4]) (rest := []) X I (c_X7_bits l g q _ σ v4 hy104) ks_X7_bits ml_X7_186 ⟨Nat.le_of_ble_eq_true rfl, Nat.le_of_ble_eq_true rfl⟩ ⟨Nat.zero_le _, Nat.zero_le _⟩ rfl rfl hl.1 (Nat.le_of_ble_eq_true rfl) dX7_sitBy_197) I (fun H locs I => ?_)
    refine lv_goto (tgt := 215) hx hb dX7_sitBy_200 (by decide) ?_
    exact r_iret X I hD dX7_sitBy_215
def D_X7_sitBy_183 (σ : St) (rc105 : Int32 → Int32 → Int32 → Option Int32) (v1 : Int32) (v2 : Int32) (v4 : Int32) (v6 : Int32) (t0 : Int32) : Option Int32 := rc105 v4 t0 (v6 + (1 : Int32))
set_option maxRecDepth 100000 in
set_option maxHeartbeats 4000000 in
theorem w_X7_sitBy_183 {p : Program} {l : Launch} {e : Env} {s : State} {m : MethodId} {args : Array Value} {below : List Frame} {meth : Method} {c : Code} (g : Gh) (q : Nat → Nat) (X : MX p s m args meth c cX7_sitBy 8 (some .int) RX7) {rr : Int32} (σ : St)  (v1 : Int32) (v2 : Int32) (v4 : Int32) (v6 : Int32) (t0 : Int32) (rc105 : Int32 → Int32 → Int32 → Option Int32) (hrc105 : ∀ (v4' : Int32) (v5' : Int32) (v6' : Int32), rc105 v4' v5' v6' = some rr → ∀ (H : Heap) (locs : List Loc) (ls : Array Slot), IM g q s σ H locs → lv_has ls 8 [(0, .ref (q 0)), (1, .int v1), (2, .int v2), (4, .int v4'), (5, .int v5'), (6, .int v6')] → W p l e (rmD 2) s m args below meth c H locs 0 0 (MQ below (QI g (eM g q) q 22 rr σ s.heap.size) args s 0 0 (AQ q 22 s.heap.size)) (F0 m 105 ls [])) (hD : D_X7_sitBy_183 σ rc105 v1 v2 v4 v6 t0 = some rr) (H : Heap) (locs : List Loc) (ls : Array Slot) (I : IM g q s σ H locs) (hl : lv_has ls 8 [(0, .ref (q 0)), (1, .int v1), (2, .int v2), (4, .int v4), (6, .int v6)]) : W p l e (rmD 2) s m args below meth c H locs 0 0 (MQ below (QI g (eM g q) q 22 rr σ s.heap.size) args s 0 0 (AQ q 22 s.heap.size)) (F0 m 183 ls [.int t0]) := by
  have hx := X.1
  have hb := X.2.1
  unfold D_X7_sitBy_183 at hD
  refine lv_istore (lv' := [(5, .int t0), (0, .ref (q 0)), (1, .int v1), (2, .int v2), (4, .int v4), (6, .int v6)]) hx hb dX7_sitBy_183 hl (by decide) rfl (fun ls hl => ?_)
  refine lv_iinc (v := v6 + (1 : Int32)) (lv' := [(6, .int (v6 + (1 : Int32))), (5, .int t0), (0, .ref (q 0)), (1, .int v1), (2, .int v2), (4, .int v4)]) hx hb dX7_sitBy_185 hl (k := 5) rfl rfl (by decide) rfl (fun ls hl => ?_)
  refine lv_goto (tgt := 105) hx hb dX7_sitBy_188 (by decide) ?_
  exact hrc105 v4 t0 (v6 + (1 : Int32)) hD _ _ _ I (lv_sub hl [2, 3, 4, 5, 1, 0] rfl)
def D_X7_sitBy_153 (σ : St) (rc105 : Int32 → Int32 → Int32 → Option Int32) (v1 : Int32) (v2 : Int32) (v5 : Int32) (v6 : Int32) (v7 : Int32) (t0 : Int32) (t1 : Int32) : Option Int32 := gd (inb (v1 + v5) 240) ((D_X7_ageBy σ v5 (σ 20 (v1 + v5).toNatClampNeg)).bind fun y118 => if v7 ≤ y118 then D_X7_sitBy_183 σ rc105 v1 v2 (t1 ||| t0) v6 v5 else D_X7_sitBy_183 σ rc105 v1 v2 (t1 ||| t0) v6 v6)
set_option maxRecDepth 100000 in
set_option maxHeartbeats 4000000 in
theorem w_X7_sitBy_153 {p : Program} {l : Launch} {e : Env} {s : State} {m : MethodId} {args : Array Value} {below : List Frame} {meth : Method} {c : Code} (g : Gh) (q : Nat → Nat) (X : MX p s m args meth c cX7_sitBy 8 (some .int) RX7) {rr : Int32} (σ : St)  (v1 : Int32) (v2 : Int32) (v5 : Int32) (v6 : Int32) (v7 : Int32) (t0 : Int32) (t1 : Int32) (rc105 : Int32 → Int32 → Int32 → Option Int32) (hrc105 : ∀ (v4' : Int32) (v5' : Int32) (v6' : Int32), rc105 v4' v5' v6' = some rr → ∀ (H : Heap) (locs : List Loc) (ls : Array Slot), IM g q s σ H locs → lv_has ls 8 [(0, .ref (q 0)), (1, .int v1), (2, .int v2), (4, .int v4'), (5, .int v5'), (6, .int v6')] → W p l e (rmD 2) s m args below meth c H locs 0 0 (MQ below (QI g (eM g q) q 22 rr σ s.heap.size) args s 0 0 (AQ q 22 s.heap.size)) (F0 m 105 ls [])) (hD : D_X7_sitBy_153 σ rc105 v1 v2 v5 v6 v7 t0 t1 = some rr) (H : Heap) (locs : List Loc) (ls : Array Slot) (I : IM g q s σ H locs) (hl : lv_has ls 8 [(0, .ref (q 0)), (1, .int v1), (2, .int v2), (5, .int v5), (6, .int v6), (7, .int v7)]) : W p l e (rmD 2) s m args below meth c H locs 0 0 (MQ below (QI g (eM g q) q 22 rr σ s.heap.size) args s 0 0 (AQ q 22 s.heap.size)) (F0 m 153 ls [.int t0, .int t1]) := by
  have hx := X.1
  have hb := X.2.1
  unfold D_X7_sitBy_153 at hD
  refine lv_ior hx hb dX7_sitBy_153 ?_
  refine lv_istore (lv' := [(4, .int (t1 ||| t0)), (0, .ref (q 0)), (1, .int v1), (2, .int v2), (5, .int v5), (6, .int v6), (7, .int v7)]) hx hb dX7_sitBy_154 hl (by decide) rfl (fun ls hl => ?_)
  refine lv_iload hx hb dX7_sitBy_156 (lv_at hl 6 rfl) ?_
  refine lv_aload_n hx hb dX7_sitBy_158 rfl (lv_at hl 1 rfl) ?_
  refine lv_iload hx hb dX7_sitBy_159 (lv_at hl 4 rfl) ?_
  refine lv_aload_n hx hb dX7_sitBy_161 rfl (lv_at hl 1 rfl) ?_
  refine g_Model_sheet X I fl_X7_68 dX7_sitBy_162 ?_
  refine lv_iload_n hx hb dX7_sitBy_165 rfl (lv_at hl 2 rfl) ?_
  refine lv_iload hx hb dX7_sitBy_166 (lv_at hl 4 rfl) ?_
  refine lv_iadd hx hb dX7_sitBy_168 ?_
  obtain ⟨hg117, hD⟩ := gd_s hD
  refine r_iald X I (by decide) ((eMa_20 g q) _) hg117 dX7_sitBy_169 ?_
  obtain ⟨y118, hy118, hD⟩ := bd_s hD
  refine r_calli (r_runV (As := [.int v5, .int (σ 20 (v1 + v5).toNatClampNeg)]) (rest := [.int v7]) X I (c_X7_ageBy l g q _ σ v5 (σ 20 (v1 + v5).toNatClampNeg) hy118) kv_X7_ageBy ml_X7_177 rfl (by decide) (eM_Model g q _) ⟨Nat.le_of_ble_eq_true rfl, Nat.le_of_ble_eq_true rfl⟩ ⟨Nat.zero_le _, Nat.zero_le _⟩ rfl rfl hl.1 (Nat.le_of_ble_eq_true rfl) dX7_sitBy_170) I (fun H locs I => ?_)
  refine lv_icmp_le (tgt := 181) hx hb dX7_sitBy_173 (by decide) (fun hc119 => ?_) (fun hc119 => ?_)
  · have hD := ite_p hc119 hD
    refine lv_iload hx hb dX7_sitBy_181 (lv_at hl 4 rfl) ?_
    exact w_X7_sitBy_183 g q X σ v1 v2 (t1 ||| t0) v6 v5 rc105 hrc105 hD _ _ _ I (lv_sub hl [1, 2, 3, 0, 5] rfl)
  · have hD := ite_n hc119 hD
    refine lv_iload hx hb dX7_sitBy_176 (lv_at hl 5 rfl) ?_
    refine lv_goto (tgt := 183) hx hb dX7_sitBy_178 (by decide) ?_
    exact w_X7_sitBy_183 g q X σ v1 v2 (t1 ||| t0) v6 v6 rc105 hrc105 hD _ _ _ I (lv_sub hl [1, 2, 3, 0, 5] rfl)
def D_X7_sitBy_105b (σ : St) (rc105 : Int32 → Int32 → Int32 → Option Int32) (v1 : Int32) (v2 : Int32) (v4 : Int32) (v5 : Int32) (v6 : Int32) : Option Int32 := if (σ 0 4) ≤ v6 then D_X7_sitBy_191 σ v2 v4 v5 else gd (inb (v1 + v6) 240) ((D_X7_ageBy σ v6 (σ 20 (v1 + v6).toNatClampNeg)).bind fun y79 => gd (inb v6 4) (if y79 = (σ 6 v6.toNatClampNeg) then D_X7_sitBy_153 σ rc105 v1 v2 v5 v6 y79 ((1 : Int32) <<< (v6 &&& 31)) v4 else D_X7_sitBy_153 σ rc105 v1 v2 v5 v6 y79 (0 : Int32) v4))
set_option maxRecDepth 100000 in
set_option maxHeartbeats 4000000 in
theorem w_X7_sitBy_105b {p : Program} {l : Launch} {e : Env} {s : State} {m : MethodId} {args : Array Value} {below : List Frame} {meth : Method} {c : Code} (g : Gh) (q : Nat → Nat) (X : MX p s m args meth c cX7_sitBy 8 (some .int) RX7) {rr : Int32} (σ : St)  (v1 : Int32) (v2 : Int32) (v4 : Int32) (v5 : Int32) (v6 : Int32) (rc105 : Int32 → Int32 → Int32 → Option Int32) (hrc105 : ∀ (v4' : Int32) (v5' : Int32) (v6' : Int32), rc105 v4' v5' v6' = some rr → ∀ (H : Heap) (locs : List Loc) (ls : Array Slot), IM g q s σ H locs → lv_has ls 8 [(0, .ref (q 0)), (1, .int v1), (2, .int v2), (4, .int v4'), (5, .int v5'), (6, .int v6')] → W p l e (rmD 2) s m args below meth c H locs 0 0 (MQ below (QI g (eM g q) q 22 rr σ s.heap.size) args s 0 0 (AQ q 22 s.heap.size)) (F0 m 105 ls [])) (hD : D_X7_sitBy_105b σ rc105 v1 v2 v4 v5 v6 = some rr) (H : Heap) (locs : List Loc) (ls : Array Slot) (I : IM g q s σ H locs) (hl : lv_has ls 8 [(0, .ref (q 0)), (1, .int v1), (2, .int v2), (4, .int v4), (5, .int v5), (6, .int v6)]) : W p l e (rmD 2) s m args below meth c H locs 0 0 (MQ below (QI g (eM g q) q 22 rr σ s.heap.size) args s 0 0 (AQ q 22 s.heap.size)) (F0 m 105 ls []) := by
  have hx := X.1
  have hb := X.2.1
  unfold D_X7_sitBy_105b at hD
  refine lv_iload hx hb dX7_sitBy_105 (lv_at hl 5 rfl) ?_
  refine lv_aload_n hx hb dX7_sitBy_107 rfl (lv_at hl 0 rfl) ?_
  refine g_Model_riders X I fl_X7_91 dX7_sitBy_108 ?_
  refine lv_icmp_ge (tgt := 191) hx hb dX7_sitBy_111 (by decide) (fun hc70 => ?_) (fun hc70 => ?_)
  · have hD := ite_p hc70 hD
    exact w_X7_sitBy_191 g q X σ v2 v4 v5 hD _ _ _ I (lv_sub hl [2, 3, 4] rfl)
  · have hD := ite_n hc70 hD
    refine lv_aload_n hx hb dX7_sitBy_114 rfl (lv_at hl 0 rfl) ?_
    refine lv_iload hx hb dX7_sitBy_115 (lv_at hl 5 rfl) ?_
    refine lv_aload_n hx hb dX7_sitBy_117 rfl (lv_at hl 0 rfl) ?_
    refine g_Model_sheet X I fl_X7_68 dX7_sitBy_118 ?_
    refine lv_iload_n hx hb dX7_sitBy_121 rfl (lv_at hl 1 rfl) ?_
    refine lv_iload hx hb dX7_sitBy_122 (lv_at hl 5 rfl) ?_
    refine lv_iadd hx hb dX7_sitBy_124 ?_
    obtain ⟨hg78, hD⟩ := gd_s hD
    refine r_iald X I (by decide) ((eMa_20 g q) _) hg78 dX7_sitBy_125 ?_
    obtain ⟨y79, hy79, hD⟩ := bd_s hD
    refine r_calli (r_runV (As := [.int v6, .int (σ 20 (v1 + v6).toNatClampNeg)]) (rest := []) X I (c_X7_ageBy l g q _ σ v6 (σ 20 (v1 + v6).toNatClampNeg) hy79) kv_X7_ageBy ml_X7_177 rfl (by decide) (eM_Model g q _) ⟨Nat.le_of_ble_eq_true rfl, Nat.le_of_ble_eq_true rfl⟩ ⟨Nat.zero_le _, Nat.zero_le _⟩ rfl rfl hl.1 (Nat.le_of_ble_eq_true rfl) dX7_sitBy_126) I (fun H locs I => ?_)
    refine lv_istore (lv' := [(7, .int y79), (0, .ref (q 0)), (1, .int v1), (2, .int v2), (4, .int v4), (5, .int v5), (6, .int v6)]) hx hb dX7_sitBy_129 hl (by decide) rfl (fun ls hl => ?_)
    refine lv_iload hx hb dX7_sitBy_131 (lv_at hl 4 rfl) ?_
    refine lv_iload hx hb dX7_sitBy_133 (lv_at hl 0 rfl) ?_
    refine lv_aload_n hx hb dX7_sitBy_135 rfl (lv_at hl 1 rfl) ?_
    refine g_Model_wantOf X I fl_X7_25 dX7_sitBy_136 ?_
    refine lv_iload hx hb dX7_sitBy_139 (lv_at hl 6 rfl) ?_
    obtain ⟨hg86, hD⟩ := gd_s hD
    refine r_iald X I (by decide) ((eMa_6 g q) _) hg86 dX7_sitBy_141 ?_
    refine lv_icmp_ne (tgt := 152) hx hb dX7_sitBy_142 (by decide) (fun hc87 => ?_) (fun hc87 => ?_)
    · have hD := ite_n hc87 hD
      refine lv_iconst (v := 0) hx hb dX7_sitBy_152 (by decide) ?_
      exact w_X7_sitBy_153 g q X σ v1 v2 v5 v6 y79 (0 : Int32) v4 rc105 hrc105 hD _ _ _ I (lv_sub hl [1, 2, 3, 5, 6, 0] rfl)
    · have hD := ite_p hc87 hD
      refine lv_iconst (v := 1) hx hb dX7_sitBy_145 (by decide) ?_
      refine lv_iload hx hb dX7_sitBy_146 (lv_at hl 6 rfl) ?_
      refine lv_ishl hx hb dX7_sitBy_148 ?_
      refine lv_goto (tgt := 153) hx hb dX7_sitBy_149 (by decide) ?_
      exact w_X7_sitBy_153 g q X σ v1 v2 v5 v6 y79 ((1 : Int32) <<< (v6 &&& 31)) v4 rc105 hrc105 hD _ _ _ I (lv_sub hl [1, 2, 3, 5, 6, 0] rfl)
def D_X7_sitBy_105 (σ : St) (v1 : Int32) (v2 : Int32) : Nat → Int32 → Int32 → Int32 → Option Int32
  | 0 => fun _ _ _ => none
  | n + 1 => fun v4 v5 v6 => D_X7_sitBy_105b σ (D_X7_sitBy_105 σ v1 v2 n) v1 v2 v4 v5 v6
set_option maxRecDepth 100000 in
set_option maxHeartbeats 4000000 in
theorem w_X7_sitBy_105 {p : Program} {l : Launch} {e : Env} {s : State} {m : MethodId} {args : Array Value} {below : List Frame} {meth : Method} {c : Code} (g : Gh) (q : Nat → Nat) (X : MX p s m args meth c cX7_sitBy 8 (some .int) RX7) {rr : Int32} (σ : St)  (v1 : Int32) (v2 : Int32) : ∀ (n : Nat) (v4 : Int32) (v5 : Int32) (v6 : Int32), D_X7_sitBy_105 σ v1 v2 n v4 v5 v6 = some rr → ∀ (H : Heap) (locs : List Loc) (ls : Array Slot), IM g q s σ H locs → lv_has ls 8 [(0, .ref (q 0)), (1, .int v1), (2, .int v2), (4, .int v4), (5, .int v5), (6, .int v6)] → W p l e (rmD 2) s m args below meth c H locs 0 0 (MQ below (QI g (eM g q) q 22 rr σ s.heap.size) args s 0 0 (AQ q 22 s.heap.size)) (F0 m 105 ls []) := by
  intro n
  induction n with
  | zero =>
    intro v4 v5 v6 hD H locs ls I hl
    cases hD
  | succ n ih =>
    intro v4 v5 v6 hD H locs ls I hl
    exact w_X7_sitBy_105b g q X σ v1 v2 v4 v5 v6 _ ih hD H locs ls I hl
def D_X7_sitBy (σ : St) (p1 : Int32) (p2 : Int32) : Option Int32 := (D_X7_wrongIn σ p1).bind fun y3 => if p2 = (1 : Int32) then some y3 else if y3 < 0 then if p2 < (20 : Int32) then if p2 < (10 : Int32) then D_X7_sitBy_105 σ p1 p2 FU (0 : Int32) (0 : Int32) (0 : Int32) else (D_X7_noSection σ (p2 - (10 : Int32))).bind fun y26 => if y26 = 0 then (D_X7_aboveOn σ (p2 - (10 : Int32)) p1).bind fun y33 => some y33 else some (-9 : Int32) else (D_X7_noRider σ (p2 - (20 : Int32))).bind fun y42 => if y42 = 0 then gd (inb ((p1 + p2) - (20 : Int32)) 240) ((D_X7_ageBy σ (p2 - (20 : Int32)) (σ 20 ((p1 + p2) - (20 : Int32)).toNatClampNeg)).bind fun y56 => some y56) else some (-9 : Int32) else some ((-100 : Int32) - y3)
set_option maxRecDepth 100000 in
set_option maxHeartbeats 4000000 in
theorem c_X7_sitBy (l : Launch) (g : Gh) (q : Nat → Nat) (sz : Nat) (σ : St) (p1 : Int32) (p2 : Int32) {rr : Int32} (hD : D_X7_sitBy σ p1 p2 = some rr) : Met l yX7_sitBy (wU yX7_sitBy cX7_sitBy 8 (some .int)) (rmD 2) (PQ g (eM g q) q 22 σ sz [.ref (q 0), .int p1, .int p2]) (QI g (eM g q) q 22 rr σ sz) 0 0 (AQ q 22 sz) := by
  refine met_of (Qc := QI g (eM g q) q 22 rr σ) (by decide) (Nat.le_of_ble_eq_true rfl) ?_
  intro p e s m below meth c ls X I hl
  have hx := X.1
  have hb := X.2.1
  have hl : lv_has ls 8 [(0, .ref (q 0)), (1, .int p1), (2, .int p2)] := hl
  unfold D_X7_sitBy at hD
  refine lv_aload_n hx hb dX7_sitBy_0 rfl (lv_at hl 0 rfl) ?_
  refine lv_iload_n hx hb dX7_sitBy_1 rfl (lv_at hl 1 rfl) ?_
  obtain ⟨y3, hy3, hD⟩ := bd_s hD
  refine r_calli (r_runV (As := [.int p1]) (rest := []) X I (c_X7_wrongIn l g q _ σ p1 hy3) kv_X7_wrongIn ml_X7_183 rfl (by decide) (eM_Model g q _) ⟨Nat.le_of_ble_eq_true rfl, Nat.le_of_ble_eq_true rfl⟩ ⟨Nat.zero_le _, Nat.zero_le _⟩ rfl rfl hl.1 (Nat.le_of_ble_eq_true rfl) dX7_sitBy_2) I (fun H locs I => ?_)
  refine lv_istore_n (lv' := [(3, .int y3), (0, .ref (q 0)), (1, .int p1), (2, .int p2)]) hx hb dX7_sitBy_5 rfl hl (by decide) rfl (fun ls hl => ?_)
  refine lv_iload_n hx hb dX7_sitBy_6 rfl (lv_at hl 3 rfl) ?_
  refine lv_iconst (v := 1) hx hb dX7_sitBy_7 (by decide) ?_
  refine lv_icmp_ne (tgt := 13) hx hb dX7_sitBy_8 (by decide) (fun hc7 => ?_) (fun hc7 => ?_)
  · have hD := ite_n hc7 hD
    refine lv_iload_n hx hb dX7_sitBy_13 rfl (lv_at hl 0 rfl) ?_
    refine lv_if_lt (tgt := 22) hx hb dX7_sitBy_14 (by decide) (fun hc9 => ?_) (fun hc9 => ?_)
    · have hD := ite_p hc9 hD
      refine lv_iload_n hx hb dX7_sitBy_22 rfl (lv_at hl 3 rfl) ?_
      refine lv_bipush (v := 20) hx hb dX7_sitBy_23 (by decide) ?_
      refine lv_icmp_lt (tgt := 64) hx hb dX7_sitBy_25 (by decide) (fun hc12 => ?_) (fun hc12 => ?_)
      · have hD := ite_p hc12 hD
        refine lv_iload_n hx hb dX7_sitBy_64 rfl (lv_at hl 3 rfl) ?_
        refine lv_bipush (v := 10) hx hb dX7_sitBy_65 (by decide) ?_
        refine lv_icmp_lt (tgt := 96) hx hb dX7_sitBy_67 (by decide) (fun hc15 => ?_) (fun hc15 => ?_)
        · have hD := ite_p hc15 hD
          refine lv_iconst (v := 0) hx hb dX7_sitBy_96 (by decide) ?_
          refine lv_istore (lv' := [(4, .int (0 : Int32)), (3, .int y3), (0, .ref (q 0)), (1, .int p1), (2, .int p2)]) hx hb dX7_sitBy_97 hl (by decide) rfl (fun ls hl => ?_)
          refine lv_iconst (v := 0) hx hb dX7_sitBy_99 (by decide) ?_
          refine lv_istore (lv' := [(5, .int (0 : Int32)), (4, .int (0 : Int32)), (3, .int y3), (0, .ref (q 0)), (1, .int p1), (2, .int p2)]) hx hb dX7_sitBy_100 hl (by decide) rfl (fun ls hl => ?_)
          refine lv_iconst (v := 0) hx hb dX7_sitBy_102 (by decide) ?_
          refine lv_istore (lv' := [(6, .int (0 : Int32)), (5, .int (0 : Int32)), (4, .int (0 : Int32)), (3, .int y3), (0, .ref (q 0)), (1, .int p1), (2, .int p2)]) hx hb dX7_sitBy_103 hl (by decide) rfl (fun ls hl => ?_)
          exact w_X7_sitBy_105 g q X σ p1 p2 FU (0 : Int32) (0 : Int32) (0 : Int32) hD _ _ _ I (lv_sub hl [4, 5, 6, 2, 1, 0] rfl)
        · have hD := ite_n hc15 hD
          refine lv_aload_n hx hb dX7_sitBy_70 rfl (lv_at hl 1 rfl) ?_
          refine lv_iload_n hx hb dX7_sitBy_71 rfl (lv_at hl 3 rfl) ?_
          refine lv_bipush (v := 10) hx hb dX7_sitBy_72 (by decide) ?_
          refine lv_isub hx hb dX7_sitBy_74 ?_
          obtain ⟨y26, hy26, hD⟩ := bd_s hD
          refine r_calli (r_runV (As := [.int (p2 - (10 : Int32))]) (rest := []) X I (c_X7_noSection l g q _ σ (p2 - (10 : Int32)) hy26) kv_X7_noSection ml_X7_161 rfl (by decide) (eM_Model g q _) ⟨Nat.le_of_ble_eq_true rfl, Nat.le_of_ble_eq_true rfl⟩ ⟨Nat.zero_le _, Nat.zero_le _⟩ rfl rfl hl.1 (Nat.le_of_ble_eq_true rfl) dX7_sitBy_75) I (fun H locs I => ?_)
          refine lv_if_eq (tgt := 86) hx hb dX7_sitBy_78 (by decide) (fun hc27 => ?_) (fun hc27 => ?_)
          · have hD := ite_p hc27 hD
            refine lv_aload_n hx hb dX7_sitBy_86 rfl (lv_at hl 1 rfl) ?_
            refine lv_iload_n hx hb dX7_sitBy_87 rfl (lv_at hl 3 rfl) ?_
            refine lv_bipush (v := 10) hx hb dX7_sitBy_88 (by decide) ?_
            refine lv_isub hx hb dX7_sitBy_90 ?_
            refine lv_iload_n hx hb dX7_sitBy_91 rfl (lv_at hl 2 rfl) ?_
            obtain ⟨y33, hy33, hD⟩ := bd_s hD
            refine r_calli (r_runV (As := [.int (p2 - (10 : Int32)), .int p1]) (rest := []) X I (c_X7_aboveOn l g q _ σ (p2 - (10 : Int32)) p1 hy33) kv_X7_aboveOn ml_X7_180 rfl (by decide) (eM_Model g q _) ⟨Nat.le_of_ble_eq_true rfl, Nat.le_of_ble_eq_true rfl⟩ ⟨Nat.zero_le _, Nat.zero_le _⟩ rfl rfl hl.1 (Nat.le_of_ble_eq_true rfl) dX7_sitBy_92) I (fun H locs I => ?_)
            exact r_iret X I hD dX7_sitBy_95
          · have hD := ite_n hc27 hD
            refine lv_bipush (v := -9) hx hb dX7_sitBy_81 (by decide) ?_
            refine lv_goto (tgt := 95) hx hb dX7_sitBy_83 (by decide) ?_
            exact r_iret X I hD dX7_sitBy_95
      · have hD := ite_n hc12 hD
        refine lv_aload_n hx hb dX7_sitBy_28 rfl (lv_at hl 1 rfl) ?_
        refine lv_iload_n hx hb dX7_sitBy_29 rfl (lv_at hl 3 rfl) ?_
        refine lv_bipush (v := 20) hx hb dX7_sitBy_30 (by decide) ?_
        refine lv_isub hx hb dX7_sitBy_32 ?_
        obtain ⟨y42, hy42, hD⟩ := bd_s hD
        refine r_calli (r_runV (As := [.int (p2 - (20 : Int32))]) (rest := []) X I (c_X7_noRider l g q _ σ (p2 - (20 : Int32)) hy42) kv_X7_noRider ml_X7_158 rfl (by decide) (eM_Model g q _) ⟨Nat.le_of_ble_eq_true rfl, Nat.le_of_ble_eq_true rfl⟩ ⟨Nat.zero_le _, Nat.zero_le _⟩ rfl rfl hl.1 (Nat.le_of_ble_eq_true rfl) dX7_sitBy_33) I (fun H locs I => ?_)
        refine lv_if_eq (tgt := 44) hx hb dX7_sitBy_36 (by decide) (fun hc43 => ?_) (fun hc43 => ?_)
        · have hD := ite_p hc43 hD
          refine lv_aload_n hx hb dX7_sitBy_44 rfl (lv_at hl 1 rfl) ?_
          refine lv_iload_n hx hb dX7_sitBy_45 rfl (lv_at hl 3 rfl) ?_
          refine lv_bipush (v := 20) hx hb dX7_sitBy_46 (by decide) ?_
          refine lv_isub hx hb dX7_sitBy_48 ?_
          refine lv_aload_n hx hb dX7_sitBy_49 rfl (lv_at hl 1 rfl) ?_
          refine g_Model_sheet X I fl_X7_68 dX7_sitBy_50 ?_
          refine lv_iload_n hx hb dX7_sitBy_53 rfl (lv_at hl 2 rfl) ?_
          refine lv_iload_n hx hb dX7_sitBy_54 rfl (lv_at hl 3 rfl) ?_
          refine lv_iadd hx hb dX7_sitBy_55 ?_
          refine lv_bipush (v := 20) hx hb dX7_sitBy_56 (by decide) ?_
          refine lv_isub hx hb dX7_sitBy_58 ?_
          obtain ⟨hg55, hD⟩ := gd_s hD
          refine r_iald X I (by decide) ((eMa_20 g q) _) hg55 dX7_sitBy_59 ?_
          obtain ⟨y56, hy56, hD⟩ := bd_s hD
          refine r_calli (r_runV (As := [.int (p2 - (20 : Int32)), .int (σ 20 ((p1 + p2) - (20 : Int32)).toNatClampNeg)]) (rest := []) X I (c_X7_ageBy l g q _ σ (p2 - (20 : Int32)) (σ 20 ((p1 + p2) - (20 : Int32)).toNatClampNeg) hy56) kv_X7_ageBy ml_X7_177 rfl (by decide) (eM_Model g q _) ⟨Nat.le_of_ble_eq_true rfl, Nat.le_of_ble_eq_true rfl⟩ ⟨Nat.zero_le _, Nat.zero_le _⟩ rfl rfl hl.1 (Nat.le_of_ble_eq_true rfl) dX7_sitBy_60) I (fun H locs I => ?_)
          exact r_iret X I hD dX7_sitBy_63
        · have hD := ite_n hc43 hD
          refine lv_bipush (v := -9) hx hb dX7_sitBy_39 (by decide) ?_
          refine lv_goto (tgt := 63) hx hb dX7_sitBy_41 (by decide) ?_
          exact r_iret X I hD dX7_sitBy_63
    · have hD := ite_n hc9 hD
      refine lv_bipush (v := -100) hx hb dX7_sitBy_17 (by decide) ?_
      refine lv_iload_n hx hb dX7_sitBy_19 rfl (lv_at hl 0 rfl) ?_
      refine lv_isub hx hb dX7_sitBy_20 ?_
      exact r_iret X I hD dX7_sitBy_21
  · have hD := ite_p hc7 hD
    refine lv_iload_n hx hb dX7_sitBy_11 rfl (lv_at hl 0 rfl) ?_
    exact r_iret X I hD dX7_sitBy_12

/-! YearDeckModel.sit(IIIII)I -/
def D_X7_sit_183 (σ : St) (v1 : Int32) (v3 : Int32) (v5 : Int32) : Option (Int32 × St) := (D_X7_sitBy σ (((60 : Int32) * v1) + v3) v5).bind fun y98 => (D_X7_refused σ y98).bind fun y99 => some (y99.1, y99.2)
set_option maxRecDepth 100000 in
set_option maxHeartbeats 4000000 in
theorem w_X7_sit_183 {p : Program} {l : Launch} {e : Env} {s : State} {m : MethodId} {args : Array Value} {below : List Frame} {meth : Method} {c : Code} (g : Gh) (q : Nat → Nat) (X : MX p s m args meth c cX7_sit 9 (some .int) RX7) {rr : (Int32 × St)} (σ : St)  (v1 : Int32) (v3 : Int32) (v5 : Int32) (hD : D_X7_sit_183 σ v1 v3 v5 = some rr) (H : Heap) (locs : List Loc) (ls : Array Slot) (I : IM g q s σ H locs) (hl : lv_has ls 9 [(0, .ref (q 0)), (1, .int v1), (3, .int v3), (5, .int v5)]) : W p l e (rmD 3) s m args below meth c H locs 0 0 (MQ below (QI g (eM g q) q 22 rr.1 rr.2 s.heap.size) args s 0 0 (AQ q 22 s.heap.size)) (F0 m 183 ls []) := by
  have hx := X.1
  have hb := X.2.1
  unfold D_X7_sit_183 at hD
  refine lv_aload_n hx hb dX7_sit_183 rfl (lv_at hl 0 rfl) ?_
  refine lv_aload_n hx hb dX7_sit_184 rfl (lv_at hl 0 rfl) ?_
  refine lv_bipush (v := 60) hx hb dX7_sit_185 (by decide) ?_
  refine lv_iload_n hx hb dX7_sit_187 rfl (lv_at hl 1 rfl) ?_
  refine lv_imul hx hb dX7_sit_188 ?_
  refine lv_iload_n hx hb dX7_sit_189 rfl (lv_at hl 2 rfl) ?_
  refine lv_iadd hx hb dX7_sit_190 ?_
  refine lv_iload hx hb dX7_sit_191 (lv_at hl 3 rfl) ?_
  obtain ⟨y98, hy98, hD⟩ := bd_s hD
  refine r_calli (r_runV (As := [.int (((60 : Int32) * v1) + v3), .int v5]) (rest := [.ref (q 0)]) X I (c_X7_sitBy l g q _ σ (((60 : Int32) * v1) + v3) v5 hy98) kv_X7_sitBy ml_X7_197 rfl (by decide) (eM_Model g q _) ⟨Nat.le_of_ble_eq_true rfl, Nat.le_of_ble_eq_true rfl⟩ ⟨Nat.zero_le _, Nat.zero_le _⟩ rfl rfl hl.1 (Nat.le_of_ble_eq_true rfl) dX7_sit_193) I (fun H locs I => ?_)
  obtain ⟨y99, hy99, hD⟩ := bd_s hD
  refine r_calli (r_runV (As := [.int y98]) (rest := []) X I (c_X7_refused l g q _ σ y98 hy99) kv_X7_refused ml_X7_140 rfl (by decide) (eM_Model g q _) ⟨Nat.le_of_ble_eq_true rfl, Nat.le_of_ble_eq_true rfl⟩ ⟨Nat.zero_le _, Nat.zero_le _⟩ rfl rfl hl.1 (Nat.le_of_ble_eq_true rfl) dX7_sit_196) I (fun H locs I => ?_)
  exact r_iret2 X I hD dX7_sit_199
def D_X7_sit_170 (σ : St) : Option (Int32 × St) := (D_X7_refused σ (-2 : Int32)).bind fun y103 => some (y103.1, y103.2)
set_option maxRecDepth 100000 in
set_option maxHeartbeats 4000000 in
theorem w_X7_sit_170 {p : Program} {l : Launch} {e : Env} {s : State} {m : MethodId} {args : Array Value} {below : List Frame} {meth : Method} {c : Code} (g : Gh) (q : Nat → Nat) (X : MX p s m args meth c cX7_sit 9 (some .int) RX7) {rr : (Int32 × St)} (σ : St)  (hD : D_X7_sit_170 σ = some rr) (H : Heap) (locs : List Loc) (ls : Array Slot) (I : IM g q s σ H locs) (hl : lv_has ls 9 [(0, .ref (q 0))]) : W p l e (rmD 3) s m args below meth c H locs 0 0 (MQ below (QI g (eM g q) q 22 rr.1 rr.2 s.heap.size) args s 0 0 (AQ q 22 s.heap.size)) (F0 m 170 ls []) := by
  have hx := X.1
  have hb := X.2.1
  unfold D_X7_sit_170 at hD
  refine lv_aload_n hx hb dX7_sit_170 rfl (lv_at hl 0 rfl) ?_
  refine lv_bipush (v := -2) hx hb dX7_sit_171 (by decide) ?_
  obtain ⟨y103, hy103, hD⟩ := bd_s hD
  refine r_calli (r_runV (As := [.int (-2 : Int32)]) (rest := []) X I (c_X7_refused l g q _ σ (-2 : Int32) hy103) kv_X7_refused ml_X7_140 rfl (by decide) (eM_Model g q _) ⟨Nat.le_of_ble_eq_true rfl, Nat.le_of_ble_eq_true rfl⟩ ⟨Nat.zero_le _, Nat.zero_le _⟩ rfl rfl hl.1 (Nat.le_of_ble_eq_true rfl) dX7_sit_173) I (fun H locs I => ?_)
  exact r_iret2 X I hD dX7_sit_176
def D_X7_sit_140b (σ : St) (rc140 : Int32 → Option (Int32 × St)) (v1 : Int32) (v3 : Int32) (v4 : Int32) (v5 : Int32) (v8 : Int32) : Option (Int32 × St) := if v4 ≤ v8 then D_X7_sit_183 σ v1 v3 v5 else gd (inb ((((60 : Int32) * v1) + v3) + v8) 240) ((D_X7_noSetOf σ v8 (σ 20 ((((60 : Int32) * v1) + v3) + v8).toNatClampNeg)).bind fun y86 => if y86 = 0 then rc140 (v8 + (1 : Int32)) else D_X7_sit_170 σ)
set_option maxRecDepth 100000 in
set_option maxHeartbeats 4000000 in
theorem w_X7_sit_140b {p : Program} {l : Launch} {e : Env} {s : State} {m : MethodId} {args : Array Value} {below : List Frame} {meth : Method} {c : Code} (g : Gh) (q : Nat → Nat) (X : MX p s m args meth c cX7_sit 9 (some .int) RX7) {rr : (Int32 × St)} (σ : St)  (v1 : Int32) (v3 : Int32) (v4 : Int32) (v5 : Int32) (v8 : Int32) (rc140 : Int32 → Option (Int32 × St)) (hrc140 : ∀ (v8' : Int32), rc140 v8' = some rr → ∀ (H : Heap) (locs : List Loc) (ls : Array Slot), IM g q s σ H locs → lv_has ls 9 [(0, .ref (q 0)), (1, .int v1), (3, .int v3), (4, .int v4), (5, .int v5), (8, .int v8')] → W p l e (rmD 3) s m args below meth c H locs 0 0 (MQ below (QI g (eM g q) q 22 rr.1 rr.2 s.heap.size) args s 0 0 (AQ q 22 s.heap.size)) (F0 m 140 ls [])) (hD : D_X7_sit_140b σ rc140 v1 v3 v4 v5 v8 = some rr) (H : Heap) (locs : List Loc) (ls : Array Slot) (I : IM g q s σ H locs) (hl : lv_has ls 9 [(0, .ref (q 0)), (1, .int v1), (3, .int v3), (4, .int v4), (5, .int v5), (8, .int v8)]) : W p l e (rmD 3) s m args below meth c H locs 0 0 (MQ below (QI g (eM g q) q 22 rr.1 rr.2 s.heap.size) args s 0 0 (AQ q 22 s.heap.size)) (F0 m 140 ls []) := by
  have hx := X.1
  have hb := X.2.1
  unfold D_X7_sit_140b at hD
  refine lv_iload hx hb dX7_sit_140 (lv_at hl 5 rfl) ?_
  refine lv_iload hx hb dX7_sit_142 (lv_at hl 3 rfl) ?_
  refine lv_icmp_ge (tgt := 183) hx hb dX7_sit_144 (by decide) (fun hc73 => ?_) (fun hc73 => ?_)
  · have hD := ite_p hc73 hD
    exact w_X7_sit_183 g q X σ v1 v3 v5 hD _ _ _ I (lv_sub hl [0, 1, 2, 4] rfl)
  · have hD := ite_n hc73 hD
    refine lv_aload_n hx hb dX7_sit_147 rfl (lv_at hl 0 rfl) ?_
    refine lv_iload hx hb dX7_sit_148 (lv_at hl 5 rfl) ?_
    refine lv_aload_n hx hb dX7_sit_150 rfl (lv_at hl 0 rfl) ?_
    refine g_Model_sheet X I fl_X7_68 dX7_sit_151 ?_
    refine lv_bipush (v := 60) hx hb dX7_sit_154 (by decide) ?_
    refine lv_iload_n hx hb dX7_sit_156 rfl (lv_at hl 1 rfl) ?_
    refine lv_imul hx hb dX7_sit_157 ?_
    refine lv_iload_n hx hb dX7_sit_158 rfl (lv_at hl 2 rfl) ?_
    refine lv_iadd hx hb dX7_sit_159 ?_
    refine lv_iload hx hb dX7_sit_160 (lv_at hl 5 rfl) ?_
    refine lv_iadd hx hb dX7_sit_162 ?_
    obtain ⟨hg85, hD⟩ := gd_s hD
    refine r_iald X I (by decide) ((eMa_20 g q) _) hg85 dX7_sit_163 ?_
    obtain ⟨y86, hy86, hD⟩ := bd_s hD
    refine r_calli (r_runV (As := [.int v8, .int (σ 20 ((((60 : Int32) * v1) + v3) + v8).toNatClampNeg)]) (rest := []) X I (c_X7_noSetOf l g q _ σ v8 (σ 20 ((((60 : Int32) * v1) + v3) + v8).toNatClampNeg) hy86) kv_X7_noSetOf ml_X7_174 rfl (by decide) (eM_Model g q _) ⟨Nat.le_of_ble_eq_true rfl, Nat.le_of_ble_eq_true rfl⟩ ⟨Nat.zero_le _, Nat.zero_le _⟩ rfl rfl hl.1 (Nat.le_of_ble_eq_true rfl) dX7_sit_164) I (fun H locs I => ?_)
    refine lv_if_eq (tgt := 177) hx hb dX7_sit_167 (by decide) (fun hc87 => ?_) (fun hc87 => ?_)
    · have hD := ite_p hc87 hD
      refine lv_iinc (v := v8 + (1 : Int32)) (lv' := [(8, .int (v8 + (1 : Int32))), (0, .ref (q 0)), (1, .int v1), (3, .int v3), (4, .int v4), (5, .int v5)]) hx hb dX7_sit_177 hl (k := 5) rfl rfl (by decide) rfl (fun ls hl => ?_)
      refine lv_goto (tgt := 140) hx hb dX7_sit_180 (by decide) ?_
      exact hrc140 (v8 + (1 : Int32)) hD _ _ _ I (lv_sub hl [1, 2, 3, 4, 5, 0] rfl)
    · have hD := ite_n hc87 hD
      exact w_X7_sit_170 g q X σ hD _ _ _ I (lv_sub hl [0] rfl)
def D_X7_sit_140 (σ : St) (v1 : Int32) (v3 : Int32) (v4 : Int32) (v5 : Int32) : Nat → Int32 → Option (Int32 × St)
  | 0 => fun _ => none
  | n + 1 => fun v8 => D_X7_sit_140b σ (D_X7_sit_140 σ v1 v3 v4 v5 n) v1 v3 v4 v5 v8
set_option maxRecDepth 100000 in
set_option maxHeartbeats 4000000 in
theorem w_X7_sit_140 {p : Program} {l : Launch} {e : Env} {s : State} {m : MethodId} {args : Array Value} {below : List Frame} {meth : Method} {c : Code} (g : Gh) (q : Nat → Nat) (X : MX p s m args meth c cX7_sit 9 (some .int) RX7) {rr : (Int32 × St)} (σ : St)  (v1 : Int32) (v3 : Int32) (v4 : Int32) (v5 : Int32) : ∀ (n : Nat) (v8 : Int32), D_X7_sit_140 σ v1 v3 v4 v5 n v8 = some rr → ∀ (H : Heap) (locs : List Loc) (ls : Array Slot), IM g q s σ H locs → lv_has ls 9 [(0, .ref (q 0)), (1, .int v1), (3, .int v3), (4, .int v4), (5, .int v5), (8, .int v8)] → W p l e (rmD 3) s m args below meth c H locs 0 0 (MQ below (QI g (eM g q) q 22 rr.1 rr.2 s.heap.size) args s 0 0 (AQ q 22 s.heap.size)) (F0 m 140 ls []) := by
  intro n
  induction n with
  | zero =>
    intro v8 hD H locs ls I hl
    cases hD
  | succ n ih =>
    intro v8 hD H locs ls I hl
    exact w_X7_sit_140b g q X σ v1 v3 v4 v5 v8 _ ih hD H locs ls I hl
def D_X7_sit_80 (σ : St) : Option (Int32 × St) := (D_X7_refused σ (-2 : Int32)).bind fun y69 => some (y69.1, y69.2)
set_option maxRecDepth 100000 in
set_option maxHeartbeats 4000000 in
theorem w_X7_sit_80 {p : Program} {l : Launch} {e : Env} {s : State} {m : MethodId} {args : Array Value} {below : List Frame} {meth : Method} {c : Code} (g : Gh) (q : Nat → Nat) (X : MX p s m args meth c cX7_sit 9 (some .int) RX7) {rr : (Int32 × St)} (σ : St)  (hD : D_X7_sit_80 σ = some rr) (H : Heap) (locs : List Loc) (ls : Array Slot) (I : IM g q s σ H locs) (hl : lv_has ls 9 [(0, .ref (q 0))]) : W p l e (rmD 3) s m args below meth c H locs 0 0 (MQ below (QI g (eM g q) q 22 rr.1 rr.2 s.heap.size) args s 0 0 (AQ q 22 s.heap.size)) (F0 m 80 ls []) := by
  have hx := X.1
  have hb := X.2.1
  unfold D_X7_sit_80 at hD
  refine lv_aload_n hx hb dX7_sit_80 rfl (lv_at hl 0 rfl) ?_
  refine lv_bipush (v := -2) hx hb dX7_sit_81 (by decide) ?_
  obtain ⟨y69, hy69, hD⟩ := bd_s hD
  refine r_calli (r_runV (As := [.int (-2 : Int32)]) (rest := []) X I (c_X7_refused l g q _ σ (-2 : Int32) hy69) kv_X7_refused ml_X7_140 rfl (by decide) (eM_Model g q _) ⟨Nat.le_of_ble_eq_true rfl, Nat.le_of_ble_eq_true rfl⟩ ⟨Nat.zero_le _, Nat.zero_le _⟩ rfl rfl hl.1 (Nat.le_of_ble_eq_true rfl) dX7_sit_83) I (fun H locs I => ?_)
  exact r_iret2 X I hD dX7_sit_86
def D_X7_sit_61 (σ : St) (v1 : Int32) (v2 : Int32) (v3 : Int32) (v4 : Int32) (v5 : Int32) (t0 : Int32) : Option (Int32 × St) := (D_X7_in σ v2.toInt64 (0 : Int64) (2 : Int64)).bind fun y34 => if y34 = 0 then D_X7_sit_80 σ else if t0 = 0 then D_X7_sit_80 σ else if (σ 0 4) = 0 then (D_X7_refused σ (-3 : Int32)).bind fun y65 => some (y65.1, y65.2) else (D_X7_cellsBarred σ v1 v2 v3 v4.toInt64).bind fun y47 => if 0 ≤ y47.1 then if v4 = (y47.2 0 4) then D_X7_sit_140 y47.2 v1 v3 v4 v5 FU (0 : Int32) else (D_X7_refused y47.2 (-2 : Int32)).bind fun y59 => some (y59.1, y59.2) else some (y47.1, y47.2)
set_option maxRecDepth 100000 in
set_option maxHeartbeats 4000000 in
theorem w_X7_sit_61 {p : Program} {l : Launch} {e : Env} {s : State} {m : MethodId} {args : Array Value} {below : List Frame} {meth : Method} {c : Code} (g : Gh) (q : Nat → Nat) (X : MX p s m args meth c cX7_sit 9 (some .int) RX7) {rr : (Int32 × St)} (σ : St)  (v1 : Int32) (v2 : Int32) (v3 : Int32) (v4 : Int32) (v5 : Int32) (t0 : Int32) (hD : D_X7_sit_61 σ v1 v2 v3 v4 v5 t0 = some rr) (H : Heap) (locs : List Loc) (ls : Array Slot) (I : IM g q s σ H locs) (hl : lv_has ls 9 [(0, .ref (q 0)), (1, .int v1), (2, .int v2), (3, .int v3), (4, .int v4), (5, .int v5)]) : W p l e (rmD 3) s m args below meth c H locs 0 0 (MQ below (QI g (eM g q) q 22 rr.1 rr.2 s.heap.size) args s 0 0 (AQ q 22 s.heap.size)) (F0 m 61 ls [.int t0]) := by
  have hx := X.1
  have hb := X.2.1
  unfold D_X7_sit_61 at hD
  refine lv_istore (lv' := [(6, .int t0), (0, .ref (q 0)), (1, .int v1), (2, .int v2), (3, .int v3), (4, .int v4), (5, .int v5)]) hx hb dX7_sit_61 hl (by decide) rfl (fun ls hl => ?_)
  refine lv_iload_n hx hb dX7_sit_63 rfl (lv_at hl 3 rfl) ?_
  refine lv_i2l hx hb dX7_sit_64 rfl ?_
  refine lv_lconst (v := 0) hx hb dX7_sit_65 rfl ?_
  refine lv_ldc2 (v := 2) hx hb X.2.2.2.2.1 (X.2.2.2.2.2.1 _ cl_X7_143) dX7_sit_66 ?_
  obtain ⟨y34, hy34, hD⟩ := bd_s hD
  refine r_calli (r_runS (As := [.long v2.toInt64, .long (0 : Int64), .long (2 : Int64)]) (rest := []) X I (c_X7_in l g q _ σ v2.toInt64 (0 : Int64) (2 : Int64) hy34) ks_X7_in ml_X7_87 ⟨Nat.le_of_ble_eq_true rfl, Nat.le_of_ble_eq_true rfl⟩ ⟨Nat.zero_le _, Nat.zero_le _⟩ rfl rfl hl.1 (Nat.le_of_ble_eq_true rfl) dX7_sit_69) I (fun H locs I => ?_)
  refine lv_if_eq (tgt := 80) hx hb dX7_sit_72 (by decide) (fun hc35 => ?_) (fun hc35 => ?_)
  · have hD := ite_p hc35 hD
    exact w_X7_sit_80 g q X σ hD _ _ _ I (lv_sub hl [1] rfl)
  · have hD := ite_n hc35 hD
    refine lv_iload hx hb dX7_sit_75 (lv_at hl 0 rfl) ?_
    refine lv_if_ne (tgt := 87) hx hb dX7_sit_77 (by decide) (fun hc37 => ?_) (fun hc37 => ?_)
    · have hD := ite_n hc37 hD
      refine lv_aload_n hx hb dX7_sit_87 rfl (lv_at hl 1 rfl) ?_
      refine g_Model_riders X I fl_X7_91 dX7_sit_88 ?_
      refine lv_if_ne (tgt := 101) hx hb dX7_sit_91 (by decide) (fun hc40 => ?_) (fun hc40 => ?_)
      · have hD := ite_n hc40 hD
        refine lv_aload_n hx hb dX7_sit_101 rfl (lv_at hl 1 rfl) ?_
        refine lv_iload_n hx hb dX7_sit_102 rfl (lv_at hl 2 rfl) ?_
        refine lv_iload_n hx hb dX7_sit_103 rfl (lv_at hl 3 rfl) ?_
        refine lv_iload_n hx hb dX7_sit_104 rfl (lv_at hl 4 rfl) ?_
        refine lv_iload hx hb dX7_sit_105 (lv_at hl 5 rfl) ?_
        refine lv_i2l hx hb dX7_sit_107 rfl ?_
        obtain ⟨y47, hy47, hD⟩ := bd_s hD
        refine r_calli (r_runV (As := [.int v1, .int v2, .int v3, .long v4.toInt64]) (rest := []) X I (c_X7_cellsBarred l g q _ σ v1 v2 v3 v4.toInt64 hy47) kv_X7_cellsBarred ml_X7_145 rfl (by decide) (eM_Model g q _) ⟨Nat.le_of_ble_eq_true rfl, Nat.le_of_ble_eq_true rfl⟩ ⟨Nat.zero_le _, Nat.zero_le _⟩ rfl rfl hl.1 (Nat.le_of_ble_eq_true rfl) dX7_sit_108) I (fun H locs I => ?_)
        refine lv_istore (lv' := [(7, .int y47.1), (6, .int t0), (0, .ref (q 0)), (1, .int v1), (2, .int v2), (3, .int v3), (4, .int v4), (5, .int v5)]) hx hb dX7_sit_111 hl (by decide) rfl (fun ls hl => ?_)
        refine lv_iload hx hb dX7_sit_113 (lv_at hl 0 rfl) ?_
        refine lv_if_ge (tgt := 121) hx hb dX7_sit_115 (by decide) (fun hc50 => ?_) (fun hc50 => ?_)
        · have hD := ite_p hc50 hD
          refine lv_iload hx hb dX7_sit_121 (lv_at hl 6 rfl) ?_
          refine lv_aload_n hx hb dX7_sit_123 rfl (lv_at hl 2 rfl) ?_
          refine g_Model_riders X I fl_X7_91 dX7_sit_124 ?_
          refine lv_icmp_eq (tgt := 137) hx hb dX7_sit_127 (by decide) (fun hc54 => ?_) (fun hc54 => ?_)
          · have hD := ite_p hc54 hD
            refine lv_iconst (v := 0) hx hb dX7_sit_137 (by decide) ?_
            refine lv_istore (lv' := [(8, .int (0 : Int32)), (7, .int y47.1), (6, .int t0), (0, .ref (q 0)), (1, .int v1), (2, .int v2), (3, .int v3), (4, .int v4), (5, .int v5)]) hx hb dX7_sit_138 hl (by decide) rfl (fun ls hl => ?_)
            exact w_X7_sit_140 g q X y47.2 v1 v3 v4 v5 FU (0 : Int32) hD _ _ _ I (lv_sub hl [3, 4, 6, 7, 8, 0] rfl)
          · have hD := ite_n hc54 hD
            refine lv_aload_n hx hb dX7_sit_130 rfl (lv_at hl 2 rfl) ?_
            refine lv_bipush (v := -2) hx hb dX7_sit_131 (by decide) ?_
            obtain ⟨y59, hy59, hD⟩ := bd_s hD
            refine r_calli (r_runV (As := [.int (-2 : Int32)]) (rest := []) X I (c_X7_refused l g q _ y47.2 (-2 : Int32) hy59) kv_X7_refused ml_X7_140 rfl (by decide) (eM_Model g q _) ⟨Nat.le_of_ble_eq_true rfl, Nat.le_of_ble_eq_true rfl⟩ ⟨Nat.zero_le _, Nat.zero_le _⟩ rfl rfl hl.1 (Nat.le_of_ble_eq_true rfl) dX7_sit_133) I (fun H locs I => ?_)
            exact r_iret2 X I hD dX7_sit_136
        · have hD := ite_n hc50 hD
          refine lv_iload hx hb dX7_sit_118 (lv_at hl 0 rfl) ?_
          exact r_iret2 X I hD dX7_sit_120
      · have hD := ite_p hc40 hD
        refine lv_aload_n hx hb dX7_sit_94 rfl (lv_at hl 1 rfl) ?_
        refine lv_bipush (v := -3) hx hb dX7_sit_95 (by decide) ?_
        obtain ⟨y65, hy65, hD⟩ := bd_s hD
        refine r_calli (r_runV (As := [.int (-3 : Int32)]) (rest := []) X I (c_X7_refused l g q _ σ (-3 : Int32) hy65) kv_X7_refused ml_X7_140 rfl (by decide) (eM_Model g q _) ⟨Nat.le_of_ble_eq_true rfl, Nat.le_of_ble_eq_true rfl⟩ ⟨Nat.zero_le _, Nat.zero_le _⟩ rfl rfl hl.1 (Nat.le_of_ble_eq_true rfl) dX7_sit_97) I (fun H locs I => ?_)
        exact r_iret2 X I hD dX7_sit_100
    · have hD := ite_p hc37 hD
      exact w_X7_sit_80 g q X σ hD _ _ _ I (lv_sub hl [1] rfl)
def D_X7_sit_56 (σ : St) (v1 : Int32) (v2 : Int32) (v3 : Int32) (v4 : Int32) (v5 : Int32) : Option (Int32 × St) := D_X7_sit_61 σ v1 v2 v3 v4 v5 (1 : Int32)
set_option maxRecDepth 100000 in
set_option maxHeartbeats 4000000 in
theorem w_X7_sit_56 {p : Program} {l : Launch} {e : Env} {s : State} {m : MethodId} {args : Array Value} {below : List Frame} {meth : Method} {c : Code} (g : Gh) (q : Nat → Nat) (X : MX p s m args meth c cX7_sit 9 (some .int) RX7) {rr : (Int32 × St)} (σ : St)  (v1 : Int32) (v2 : Int32) (v3 : Int32) (v4 : Int32) (v5 : Int32) (hD : D_X7_sit_56 σ v1 v2 v3 v4 v5 = some rr) (H : Heap) (locs : List Loc) (ls : Array Slot) (I : IM g q s σ H locs) (hl : lv_has ls 9 [(0, .ref (q 0)), (1, .int v1), (2, .int v2), (3, .int v3), (4, .int v4), (5, .int v5)]) : W p l e (rmD 3) s m args below meth c H locs 0 0 (MQ below (QI g (eM g q) q 22 rr.1 rr.2 s.heap.size) args s 0 0 (AQ q 22 s.heap.size)) (F0 m 56 ls []) := by
  have hx := X.1
  have hb := X.2.1
  unfold D_X7_sit_56 at hD
  refine lv_iconst (v := 1) hx hb dX7_sit_56 (by decide) ?_
  refine lv_goto (tgt := 61) hx hb dX7_sit_57 (by decide) ?_
  exact w_X7_sit_61 g q X σ v1 v2 v3 v4 v5 (1 : Int32) hD _ _ _ I (lv_sub hl [0, 1, 2, 3, 4, 5] rfl)
def D_X7_sit (σ : St) (p1 : Int32) (p2 : Int32) (p3 : Int32) (p4 : Int32) (p5 : Int32) : Option (Int32 × St) := (D_X7_noSheet σ p1).bind fun y2 => if y2 = 0 then (D_X7_in σ p5.toInt64 (0 : Int64) (3 : Int64)).bind fun y8 => if y8 = 0 then (D_X7_in σ p5.toInt64 (10 : Int64) (14 : Int64)).bind fun y14 => if y14 = 0 then (D_X7_in σ p5.toInt64 (20 : Int64) (23 : Int64)).bind fun y20 => if y20 = 0 then D_X7_sit_61 σ p1 p2 p3 p4 p5 (0 : Int32) else D_X7_sit_56 σ p1 p2 p3 p4 p5 else D_X7_sit_56 σ p1 p2 p3 p4 p5 else D_X7_sit_56 σ p1 p2 p3 p4 p5 else (D_X7_refused σ (-1 : Int32)).bind fun y25 => some (y25.1, y25.2)
set_option maxRecDepth 100000 in
set_option maxHeartbeats 4000000 in
theorem c_X7_sit (l : Launch) (g : Gh) (q : Nat → Nat) (sz : Nat) (σ : St) (p1 : Int32) (p2 : Int32) (p3 : Int32) (p4 : Int32) (p5 : Int32) {rr : (Int32 × St)} (hD : D_X7_sit σ p1 p2 p3 p4 p5 = some rr) : Met l yX7_sit (wU yX7_sit cX7_sit 9 (some .int)) (rmD 3) (PQ g (eM g q) q 22 σ sz [.ref (q 0), .int p1, .int p2, .int p3, .int p4, .int p5]) (QI g (eM g q) q 22 rr.1 rr.2 sz) 0 0 (AQ q 22 sz) := by
  refine met_of (Qc := QI g (eM g q) q 22 rr.1 rr.2) (by decide) (Nat.le_of_ble_eq_true rfl) ?_
  intro p e s m below meth c ls X I hl
  have hx := X.1
  have hb := X.2.1
  have hl : lv_has ls 9 [(0, .ref (q 0)), (1, .int p1), (2, .int p2), (3, .int p3), (4, .int p4), (5, .int p5)] := hl
  unfold D_X7_sit at hD
  refine lv_iload_n hx hb dX7_sit_0 rfl (lv_at hl 1 rfl) ?_
  obtain ⟨y2, hy2, hD⟩ := bd_s hD
  refine r_calli (r_runS (As := [.int p1]) (rest := []) X I (c_X7_noSheet l g q _ σ p1 hy2) ks_X7_noSheet ml_X7_136 ⟨Nat.le_of_ble_eq_true rfl, Nat.le_of_ble_eq_true rfl⟩ ⟨Nat.zero_le _, Nat.zero_le _⟩ rfl rfl hl.1 (Nat.le_of_ble_eq_true rfl) dX7_sit_1) I (fun H locs I => ?_)
  refine lv_if_eq (tgt := 13) hx hb dX7_sit_4 (by decide) (fun hc3 => ?_) (fun hc3 => ?_)
  · have hD := ite_p hc3 hD
    refine lv_iload hx hb dX7_sit_13 (lv_at hl 5 rfl) ?_
    refine lv_i2l hx hb dX7_sit_15 rfl ?_
    refine lv_lconst (v := 0) hx hb dX7_sit_16 rfl ?_
    refine lv_ldc2 (v := 3) hx hb X.2.2.2.2.1 (X.2.2.2.2.2.1 _ cl_X7_164) dX7_sit_17 ?_
    obtain ⟨y8, hy8, hD⟩ := bd_s hD
    refine r_calli (r_runS (As := [.long p5.toInt64, .long (0 : Int64), .long (3 : Int64)]) (rest := []) X I (c_X7_in l g q _ σ p5.toInt64 (0 : Int64) (3 : Int64) hy8) ks_X7_in ml_X7_87 ⟨Nat.le_of_ble_eq_true rfl, Nat.le_of_ble_eq_true rfl⟩ ⟨Nat.zero_le _, Nat.zero_le _⟩ rfl rfl hl.1 (Nat.le_of_ble_eq_true rfl) dX7_sit_20) I (fun H locs I => ?_)
    refine lv_if_ne (tgt := 56) hx hb dX7_sit_23 (by decide) (fun hc9 => ?_) (fun hc9 => ?_)
    · have hD := ite_n hc9 hD
      exact w_X7_sit_56 g q X σ p1 p2 p3 p4 p5 hD _ _ _ I (lv_sub hl [0, 1, 2, 3, 4, 5] rfl)
    · have hD := ite_p hc9 hD
      refine lv_iload hx hb dX7_sit_26 (lv_at hl 5 rfl) ?_
      refine lv_i2l hx hb dX7_sit_28 rfl ?_
      refine lv_ldc2 (v := 10) hx hb X.2.2.2.2.1 (X.2.2.2.2.2.1 _ cl_X7_189) dX7_sit_29 ?_
      refine lv_ldc2 (v := 14) hx hb X.2.2.2.2.1 (X.2.2.2.2.2.1 _ cl_X7_191) dX7_sit_32 ?_
      obtain ⟨y14, hy14, hD⟩ := bd_s hD
      refine r_calli (r_runS (As := [.long p5.toInt64, .long (10 : Int64), .long (14 : Int64)]) (rest := []) X I (c_X7_in l g q _ σ p5.toInt64 (10 : Int64) (14 : Int64) hy14) ks_X7_in ml_X7_87 ⟨Nat.le_of_ble_eq_true rfl, Nat.le_of_ble_eq_true rfl⟩ ⟨Nat.zero_le _, Nat.zero_le _⟩ rfl rfl hl.1 (Nat.le_of_ble_eq_true rfl) dX7_sit_35) I (fun H locs I => ?_)
      refine lv_if_ne (tgt := 56) hx hb dX7_sit_38 (by decide) (fun hc15 => ?_) (fun hc15 => ?_)
      · have hD := ite_n hc15 hD
        exact w_X7_sit_56 g q X σ p1 p2 p3 p4 p5 hD _ _ _ I (lv_sub hl [0, 1, 2, 3, 4, 5] rfl)
      · have hD := ite_p hc15 hD
        refine lv_iload hx hb dX7_sit_41 (lv_at hl 5 rfl) ?_
        refine lv_i2l hx hb dX7_sit_43 rfl ?_
        refine lv_ldc2 (v := 20) hx hb X.2.2.2.2.1 (X.2.2.2.2.2.1 _ cl_X7_193) dX7_sit_44 ?_
        refine lv_ldc2 (v := 23) hx hb X.2.2.2.2.1 (X.2.2.2.2.2.1 _ cl_X7_195) dX7_sit_47 ?_
        obtain ⟨y20, hy20, hD⟩ := bd_s hD
        refine r_calli (r_runS (As := [.long p5.toInt64, .long (20 : Int64), .long (23 : Int64)]) (rest := []) X I (c_X7_in l g q _ σ p5.toInt64 (20 : Int64) (23 : Int64) hy20) ks_X7_in ml_X7_87 ⟨Nat.le_of_ble_eq_true rfl, Nat.le_of_ble_eq_true rfl⟩ ⟨Nat.zero_le _, Nat.zero_le _⟩ rfl rfl hl.1 (Nat.le_of_ble_eq_true rfl) dX7_sit_50) I (fun H locs I => ?_)
        refine lv_if_eq (tgt := 60) hx hb dX7_sit_53 (by decide) (fun hc21 => ?_) (fun hc21 => ?_)
        · have hD := ite_p hc21 hD
          refine lv_iconst (v := 0) hx hb dX7_sit_60 (by decide) ?_
          exact w_X7_sit_61 g q X σ p1 p2 p3 p4 p5 (0 : Int32) hD _ _ _ I (lv_sub hl [0, 1, 2, 3, 4, 5] rfl)
        · have hD := ite_n hc21 hD
          exact w_X7_sit_56 g q X σ p1 p2 p3 p4 p5 hD _ _ _ I (lv_sub hl [0, 1, 2, 3, 4, 5] rfl)
  · have hD := ite_n hc3 hD
    refine lv_aload_n hx hb dX7_sit_7 rfl (lv_at hl 0 rfl) ?_
    refine lv_iconst (v := -1) hx hb dX7_sit_8 (by decide) ?_
    obtain ⟨y25, hy25, hD⟩ := bd_s hD
    refine r_calli (r_runV (As := [.int (-1 : Int32)]) (rest := []) X I (c_X7_refused l g q _ σ (-1 : Int32) hy25) kv_X7_refused ml_X7_140 rfl (by decide) (eM_Model g q _) ⟨Nat.le_of_ble_eq_true rfl, Nat.le_of_ble_eq_true rfl⟩ ⟨Nat.zero_le _, Nat.zero_le _⟩ rfl rfl hl.1 (Nat.le_of_ble_eq_true rfl) dX7_sit_9) I (fun H locs I => ?_)
    exact r_iret2 X I hD dX7_sit_12

/-! YearDeckModel.maySit(II)Z -/
def D_X7_maySit (σ : St) (p1 : Int32) (p2 : Int32) : Option Int32 := (D_X7_noSetOf σ p1 p2).bind fun y4 => if y4 = 0 then if 0 < (σ 0 1) then some (1 : Int32) else if p2 = 0 then some (1 : Int32) else some (0 : Int32) else some (0 : Int32)
set_option maxRecDepth 100000 in
set_option maxHeartbeats 4000000 in
theorem c_X7_maySit (l : Launch) (g : Gh) (q : Nat → Nat) (sz : Nat) (σ : St) (p1 : Int32) (p2 : Int32) {rr : Int32} (hD : D_X7_maySit σ p1 p2 = some rr) : Met l yX7_maySit (wU yX7_maySit cX7_maySit 3 (some .boolean)) (rmD 2) (PQ g (eM g q) q 22 σ sz [.ref (q 0), .int p1, .int p2]) (QI g (eM g q) q 22 rr σ sz) 0 0 (AQ q 22 sz) := by
  refine met_of (Qc := QI g (eM g q) q 22 rr σ) (by decide) (Nat.le_of_ble_eq_true rfl) ?_
  intro p e s m below meth c ls X I hl
  have hx := X.1
  have hb := X.2.1
  have hl : lv_has ls 3 [(0, .ref (q 0)), (1, .int p1), (2, .int p2)] := hl
  unfold D_X7_maySit at hD
  refine lv_aload_n hx hb dX7_maySit_0 rfl (lv_at hl 0 rfl) ?_
  refine lv_iload_n hx hb dX7_maySit_1 rfl (lv_at hl 1 rfl) ?_
  refine lv_iload_n hx hb dX7_maySit_2 rfl (lv_at hl 2 rfl) ?_
  obtain ⟨y4, hy4, hD⟩ := bd_s hD
  refine r_calli (r_runV (As := [.int p1, .int p2]) (rest := []) X I (c_X7_noSetOf l g q _ σ p1 p2 hy4) kv_X7_noSetOf ml_X7_174 rfl (by decide) (eM_Model g q _) ⟨Nat.le_of_ble_eq_true rfl, Nat.le_of_ble_eq_true rfl⟩ ⟨Nat.zero_le _, Nat.zero_le _⟩ rfl rfl hl.1 (Nat.le_of_ble_eq_true rfl) dX7_maySit_3) I (fun H locs I => ?_)
  refine lv_if_ne (tgt := 24) hx hb dX7_maySit_6 (by decide) (fun hc5 => ?_) (fun hc5 => ?_)
  · have hD := ite_n hc5 hD
    refine lv_iconst (v := 0) hx hb dX7_maySit_24 (by decide) ?_
    exact r_zret X I hD rfl dX7_maySit_25
  · have hD := ite_p hc5 hD
    refine lv_aload_n hx hb dX7_maySit_9 rfl (lv_at hl 0 rfl) ?_
    refine g_Model_seats X I fl_X7_152 dX7_maySit_10 ?_
    refine lv_if_gt (tgt := 20) hx hb dX7_maySit_13 (by decide) (fun hc10 => ?_) (fun hc10 => ?_)
    · have hD := ite_p hc10 hD
      refine lv_iconst (v := 1) hx hb dX7_maySit_20 (by decide) ?_
      refine lv_goto (tgt := 25) hx hb dX7_maySit_21 (by decide) ?_
      exact r_zret X I hD rfl dX7_maySit_25
    · have hD := ite_n hc10 hD
      refine lv_iload_n hx hb dX7_maySit_16 rfl (lv_at hl 2 rfl) ?_
      refine lv_if_ne (tgt := 24) hx hb dX7_maySit_17 (by decide) (fun hc15 => ?_) (fun hc15 => ?_)
      · have hD := ite_n hc15 hD
        refine lv_iconst (v := 0) hx hb dX7_maySit_24 (by decide) ?_
        exact r_zret X I hD rfl dX7_maySit_25
      · have hD := ite_p hc15 hD
        refine lv_iconst (v := 1) hx hb dX7_maySit_20 (by decide) ?_
        refine lv_goto (tgt := 25) hx hb dX7_maySit_21 (by decide) ?_
        exact r_zret X I hD rfl dX7_maySit_25

/-! YearDeckModel.way(II)I -/
def D_X7_way_93 (σ : St) (rc31 : Int32 → Int32 → Option Int32) (v1 : Int32) (v2 : Int32) (v4 : Int32) (t0 : Int32) : Option Int32 := rc31 t0 (v4 + (1 : Int32))
set_option maxRecDepth 100000 in
set_option maxHeartbeats 4000000 in
theorem w_X7_way_93 {p : Program} {l : Launch} {e : Env} {s : State} {m : MethodId} {args : Array Value} {below : List Frame} {meth : Method} {c : Code} (g : Gh) (q : Nat → Nat) (X : MX p s m args meth c cX7_way 6 (some .int) RX7) {rr : Int32} (σ : St)  (v1 : Int32) (v2 : Int32) (v4 : Int32) (t0 : Int32) (rc31 : Int32 → Int32 → Option Int32) (hrc31 : ∀ (v3' : Int32) (v4' : Int32), rc31 v3' v4' = some rr → ∀ (H : Heap) (locs : List Loc) (ls : Array Slot), IM g q s σ H locs → lv_has ls 6 [(0, .ref (q 0)), (1, .int v1), (2, .int v2), (3, .int v3'), (4, .int v4')] → W p l e (rmD 3) s m args below meth c H locs 0 0 (MQ below (QI g (eM g q) q 22 rr σ s.heap.size) args s 0 0 (AQ q 22 s.heap.size)) (F0 m 31 ls [])) (hD : D_X7_way_93 σ rc31 v1 v2 v4 t0 = some rr) (H : Heap) (locs : List Loc) (ls : Array Slot) (I : IM g q s σ H locs) (hl : lv_has ls 6 [(0, .ref (q 0)), (1, .int v1), (2, .int v2), (4, .int v4)]) : W p l e (rmD 3) s m args below meth c H locs 0 0 (MQ below (QI g (eM g q) q 22 rr σ s.heap.size) args s 0 0 (AQ q 22 s.heap.size)) (F0 m 93 ls [.int t0]) := by
  have hx := X.1
  have hb := X.2.1
  unfold D_X7_way_93 at hD
  refine lv_istore_n (lv' := [(3, .int t0), (0, .ref (q 0)), (1, .int v1), (2, .int v2), (4, .int v4)]) hx hb dX7_way_93 rfl hl (by decide) rfl (fun ls hl => ?_)
  refine lv_iinc (v := v4 + (1 : Int32)) (lv' := [(4, .int (v4 + (1 : Int32))), (3, .int t0), (0, .ref (q 0)), (1, .int v1), (2, .int v2)]) hx hb dX7_way_94 hl (k := 4) rfl rfl (by decide) rfl (fun ls hl => ?_)
  refine lv_goto (tgt := 31) hx hb dX7_way_97 (by decide) ?_
  exact hrc31 t0 (v4 + (1 : Int32)) hD _ _ _ I (lv_sub hl [2, 3, 4, 1, 0] rfl)
def D_X7_way_92 (σ : St) (rc31 : Int32 → Int32 → Option Int32) (v1 : Int32) (v2 : Int32) (v3 : Int32) (v4 : Int32) : Option Int32 := D_X7_way_93 σ rc31 v1 v2 v4 v3
set_option maxRecDepth 100000 in
set_option maxHeartbeats 4000000 in
theorem w_X7_way_92 {p : Program} {l : Launch} {e : Env} {s : State} {m : MethodId} {args : Array Value} {below : List Frame} {meth : Method} {c : Code} (g : Gh) (q : Nat → Nat) (X : MX p s m args meth c cX7_way 6 (some .int) RX7) {rr : Int32} (σ : St)  (v1 : Int32) (v2 : Int32) (v3 : Int32) (v4 : Int32) (rc31 : Int32 → Int32 → Option Int32) (hrc31 : ∀ (v3' : Int32) (v4' : Int32), rc31 v3' v4' = some rr → ∀ (H : Heap) (locs : List Loc) (ls : Array Slot), IM g q s σ H locs → lv_has ls 6 [(0, .ref (q 0)), (1, .int v1), (2, .int v2), (3, .int v3'), (4, .int v4')] → W p l e (rmD 3) s m args below meth c H locs 0 0 (MQ below (QI g (eM g q) q 22 rr σ s.heap.size) args s 0 0 (AQ q 22 s.heap.size)) (F0 m 31 ls [])) (hD : D_X7_way_92 σ rc31 v1 v2 v3 v4 = some rr) (H : Heap) (locs : List Loc) (ls : Array Slot) (I : IM g q s σ H locs) (hl : lv_has ls 6 [(0, .ref (q 0)), (1, .int v1), (2, .int v2), (3, .int v3), (4, .int v4)]) : W p l e (rmD 3) s m args below meth c H locs 0 0 (MQ below (QI g (eM g q) q 22 rr σ s.heap.size) args s 0 0 (AQ q 22 s.heap.size)) (F0 m 92 ls []) := by
  have hx := X.1
  have hb := X.2.1
  unfold D_X7_way_92 at hD
  refine lv_iload_n hx hb dX7_way_92 rfl (lv_at hl 3 rfl) ?_
  exact w_X7_way_93 g q X σ v1 v2 v4 v3 rc31 hrc31 hD _ _ _ I (lv_sub hl [0, 1, 2, 4] rfl)
def D_X7_way_87 (σ : St) (rc31 : Int32 → Int32 → Option Int32) (v1 : Int32) (v2 : Int32) (v4 : Int32) : Option Int32 := D_X7_way_93 σ rc31 v1 v2 v4 v4
set_option maxRecDepth 100000 in
set_option maxHeartbeats 4000000 in
theorem w_X7_way_87 {p : Program} {l : Launch} {e : Env} {s : State} {m : MethodId} {args : Array Value} {below : List Frame} {meth : Method} {c : Code} (g : Gh) (q : Nat → Nat) (X : MX p s m args meth c cX7_way 6 (some .int) RX7) {rr : Int32} (σ : St)  (v1 : Int32) (v2 : Int32) (v4 : Int32) (rc31 : Int32 → Int32 → Option Int32) (hrc31 : ∀ (v3' : Int32) (v4' : Int32), rc31 v3' v4' = some rr → ∀ (H : Heap) (locs : List Loc) (ls : Array Slot), IM g q s σ H locs → lv_has ls 6 [(0, .ref (q 0)), (1, .int v1), (2, .int v2), (3, .int v3'), (4, .int v4')] → W p l e (rmD 3) s m args below meth c H locs 0 0 (MQ below (QI g (eM g q) q 22 rr σ s.heap.size) args s 0 0 (AQ q 22 s.heap.size)) (F0 m 31 ls [])) (hD : D_X7_way_87 σ rc31 v1 v2 v4 = some rr) (H : Heap) (locs : List Loc) (ls : Array Slot) (I : IM g q s σ H locs) (hl : lv_has ls 6 [(0, .ref (q 0)), (1, .int v1), (2, .int v2), (4, .int v4)]) : W p l e (rmD 3) s m args below meth c H locs 0 0 (MQ below (QI g (eM g q) q 22 rr σ s.heap.size) args s 0 0 (AQ q 22 s.heap.size)) (F0 m 87 ls []) := by
  have hx := X.1
  have hb := X.2.1
  unfold D_X7_way_87 at hD
  refine lv_iload hx hb dX7_way_87 (lv_at hl 3 rfl) ?_
  refine lv_goto (tgt := 93) hx hb dX7_way_89 (by decide) ?_
  exact w_X7_way_93 g q X σ v1 v2 v4 v4 rc31 hrc31 hD _ _ _ I (lv_sub hl [0, 1, 2, 3] rfl)
def D_X7_way_64 (σ : St) (rc31 : Int32 → Int32 → Option Int32) (v1 : Int32) (v2 : Int32) (v3 : Int32) (v4 : Int32) (t0 : Int32) : Option Int32 := if t0 = 0 then D_X7_way_92 σ rc31 v1 v2 v3 v4 else if v3 < 0 then D_X7_way_87 σ rc31 v1 v2 v4 else (D_X7_bits σ v4).bind fun y44 => (D_X7_bits σ v3).bind fun y46 => if y46 ≤ y44 then D_X7_way_92 σ rc31 v1 v2 v3 v4 else D_X7_way_87 σ rc31 v1 v2 v4
set_option maxRecDepth 100000 in
set_option maxHeartbeats 4000000 in
theorem w_X7_way_64 {p : Program} {l : Launch} {e : Env} {s : State} {m : MethodId} {args : Array Value} {below : List Frame} {meth : Method} {c : Code} (g : Gh) (q : Nat → Nat) (X : MX p s m args meth c cX7_way 6 (some .int) RX7) {rr : Int32} (σ : St)  (v1 : Int32) (v2 : Int32) (v3 : Int32) (v4 : Int32) (t0 : Int32) (rc31 : Int32 → Int32 → Option Int32) (hrc31 : ∀ (v3' : Int32) (v4' : Int32), rc31 v3' v4' = some rr → ∀ (H : Heap) (locs : List Loc) (ls : Array Slot), IM g q s σ H locs → lv_has ls 6 [(0, .ref (q 0)), (1, .int v1), (2, .int v2), (3, .int v3'), (4, .int v4')] → W p l e (rmD 3) s m args below meth c H locs 0 0 (MQ below (QI g (eM g q) q 22 rr σ s.heap.size) args s 0 0 (AQ q 22 s.heap.size)) (F0 m 31 ls [])) (hD : D_X7_way_64 σ rc31 v1 v2 v3 v4 t0 = some rr) (H : Heap) (locs : List Loc) (ls : Array Slot) (I : IM g q s σ H locs) (hl : lv_has ls 6 [(0, .ref (q 0)), (1, .int v1), (2, .int v2), (3, .int v3), (4, .int v4)]) : W p l e (rmD 3) s m args below meth c H locs 0 0 (MQ below (QI g (eM g q) q 22 rr σ s.heap.size) args s 0 0 (AQ q 22 s.heap.size)) (F0 m 64 ls [.int t0]) := by
  have hx := X.1
  have hb := X.2.1
  unfold D_X7_way_64 at hD
  refine lv_istore (lv' := [(5, .int t0), (0, .ref (q 0)), (1, .int v1), (2, .int v2), (3, .int v3), (4, .int v4)]) hx hb dX7_way_64 hl (by decide) rfl (fun ls hl => ?_)
  refine lv_iload hx hb dX7_way_66 (lv_at hl 0 rfl) ?_
  refine lv_if_eq (tgt := 92) hx hb dX7_way_68 (by decide) (fun hc40 => ?_) (fun hc40 => ?_)
  · have hD := ite_p hc40 hD
    exact w_X7_way_92 g q X σ v1 v2 v3 v4 rc31 hrc31 hD _ _ _ I (lv_sub hl [1, 2, 3, 4, 5] rfl)
  · have hD := ite_n hc40 hD
    refine lv_iload_n hx hb dX7_way_71 rfl (lv_at hl 4 rfl) ?_
    refine lv_if_lt (tgt := 87) hx hb dX7_way_72 (by decide) (fun hc42 => ?_) (fun hc42 => ?_)
    · have hD := ite_p hc42 hD
      exact w_X7_way_87 g q X σ v1 v2 v4 rc31 hrc31 hD _ _ _ I (lv_sub hl [1, 2, 3, 5] rfl)
    · have hD := ite_n hc42 hD
      refine lv_iload hx hb dX7_way_75 (lv_at hl 5 rfl) ?_
      obtain ⟨y44, hy44, hD⟩ := bd_s hD
      refine r_calli (r_runS (As := [.int v4]) (rest := []) X I (c_X7_bits l g q _ σ v4 hy44) ks_X7_bits ml_X7_186 ⟨Nat.le_of_ble_eq_true rfl, Nat.le_of_ble_eq_true rfl⟩ ⟨Nat.zero_le _, Nat.zero_le _⟩ rfl rfl hl.1 (Nat.le_of_ble_eq_true rfl) dX7_way_77) I (fun H locs I => ?_)
      refine lv_iload_n hx hb dX7_way_80 rfl (lv_at hl 4 rfl) ?_
      obtain ⟨y46, hy46, hD⟩ := bd_s hD
      refine r_calli (r_runS (As := [.int v3]) (rest := [.int y44]) X I (c_X7_bits l g q _ σ v3 hy46) ks_X7_bits ml_X7_186 ⟨Nat.le_of_ble_eq_true rfl, Nat.le_of_ble_eq_true rfl⟩ ⟨Nat.zero_le _, Nat.zero_le _⟩ rfl rfl hl.1 (Nat.le_of_ble_eq_true rfl) dX7_way_81) I (fun H locs I => ?_)
      refine lv_icmp_ge (tgt := 92) hx hb dX7_way_84 (by decide) (fun hc47 => ?_) (fun hc47 => ?_)
      · have hD := ite_p hc47 hD
        exact w_X7_way_92 g q X σ v1 v2 v3 v4 rc31 hrc31 hD _ _ _ I (lv_sub hl [1, 2, 3, 4, 5] rfl)
      · have hD := ite_n hc47 hD
        exact w_X7_way_87 g q X σ v1 v2 v4 rc31 hrc31 hD _ _ _ I (lv_sub hl [1, 2, 3, 5] rfl)
def D_X7_way_63 (σ : St) (rc31 : Int32 → Int32 → Option Int32) (v1 : Int32) (v2 : Int32) (v3 : Int32) (v4 : Int32) : Option Int32 := D_X7_way_64 σ rc31 v1 v2 v3 v4 (0 : Int32)
set_option maxRecDepth 100000 in
set_option maxHeartbeats 4000000 in
theorem w_X7_way_63 {p : Program} {l : Launch} {e : Env} {s : State} {m : MethodId} {args : Array Value} {below : List Frame} {meth : Method} {c : Code} (g : Gh) (q : Nat → Nat) (X : MX p s m args meth c cX7_way 6 (some .int) RX7) {rr : Int32} (σ : St)  (v1 : Int32) (v2 : Int32) (v3 : Int32) (v4 : Int32) (rc31 : Int32 → Int32 → Option Int32) (hrc31 : ∀ (v3' : Int32) (v4' : Int32), rc31 v3' v4' = some rr → ∀ (H : Heap) (locs : List Loc) (ls : Array Slot), IM g q s σ H locs → lv_has ls 6 [(0, .ref (q 0)), (1, .int v1), (2, .int v2), (3, .int v3'), (4, .int v4')] → W p l e (rmD 3) s m args below meth c H locs 0 0 (MQ below (QI g (eM g q) q 22 rr σ s.heap.size) args s 0 0 (AQ q 22 s.heap.size)) (F0 m 31 ls [])) (hD : D_X7_way_63 σ rc31 v1 v2 v3 v4 = some rr) (H : Heap) (locs : List Loc) (ls : Array Slot) (I : IM g q s σ H locs) (hl : lv_has ls 6 [(0, .ref (q 0)), (1, .int v1), (2, .int v2), (3, .int v3), (4, .int v4)]) : W p l e (rmD 3) s m args below meth c H locs 0 0 (MQ below (QI g (eM g q) q 22 rr σ s.heap.size) args s 0 0 (AQ q 22 s.heap.size)) (F0 m 63 ls []) := by
  have hx := X.1
  have hb := X.2.1
  unfold D_X7_way_63 at hD
  refine lv_iconst (v := 0) hx hb dX7_way_63 (by decide) ?_
  exact w_X7_way_64 g q X σ v1 v2 v3 v4 (0 : Int32) rc31 hrc31 hD _ _ _ I (lv_sub hl [0, 1, 2, 3, 4] rfl)
def D_X7_way_31b (σ : St) (rc31 : Int32 → Int32 → Option Int32) (v1 : Int32) (v2 : Int32) (v3 : Int32) (v4 : Int32) : Option Int32 := if (32 : Int32) ≤ v4 then some v3 else (D_X7_maySit σ v1 v4).bind fun y27 => if y27 = 0 then D_X7_way_63 σ rc31 v1 v2 v3 v4 else (D_X7_ageBy σ v1 v4).bind fun y32 => if y32 = v2 then D_X7_way_64 σ rc31 v1 v2 v3 v4 (1 : Int32) else D_X7_way_63 σ rc31 v1 v2 v3 v4
set_option maxRecDepth 100000 in
set_option maxHeartbeats 4000000 in
theorem w_X7_way_31b {p : Program} {l : Launch} {e : Env} {s : State} {m : MethodId} {args : Array Value} {below : List Frame} {meth : Method} {c : Code} (g : Gh) (q : Nat → Nat) (X : MX p s m args meth c cX7_way 6 (some .int) RX7) {rr : Int32} (σ : St)  (v1 : Int32) (v2 : Int32) (v3 : Int32) (v4 : Int32) (rc31 : Int32 → Int32 → Option Int32) (hrc31 : ∀ (v3' : Int32) (v4' : Int32), rc31 v3' v4' = some rr → ∀ (H : Heap) (locs : List Loc) (ls : Array Slot), IM g q s σ H locs → lv_has ls 6 [(0, .ref (q 0)), (1, .int v1), (2, .int v2), (3, .int v3'), (4, .int v4')] → W p l e (rmD 3) s m args below meth c H locs 0 0 (MQ below (QI g (eM g q) q 22 rr σ s.heap.size) args s 0 0 (AQ q 22 s.heap.size)) (F0 m 31 ls [])) (hD : D_X7_way_31b σ rc31 v1 v2 v3 v4 = some rr) (H : Heap) (locs : List Loc) (ls : Array Slot) (I : IM g q s σ H locs) (hl : lv_has ls 6 [(0, .ref (q 0)), (1, .int v1), (2, .int v2), (3, .int v3), (4, .int v4)]) : W p l e (rmD 3) s m args below meth c H locs 0 0 (MQ below (QI g (eM g q) q 22 rr σ s.heap.size) args s 0 0 (AQ q 22 s.heap.size)) (F0 m 31 ls []) := by
  have hx := X.1
  have hb := X.2.1
  unfold D_X7_way_31b at hD
  refine lv_iload hx hb dX7_way_31 (lv_at hl 4 rfl) ?_
  refine lv_bipush (v := 32) hx hb dX7_way_33 (by decide) ?_
  refine lv_icmp_ge (tgt := 100) hx hb dX7_way_35 (by decide) (fun hc21 => ?_) (fun hc21 => ?_)
  · have hD := ite_p hc21 hD
    refine lv_iload_n hx hb dX7_way_100 rfl (lv_at hl 3 rfl) ?_
    exact r_iret X I hD dX7_way_101
  · have hD := ite_n hc21 hD
    refine lv_aload_n hx hb dX7_way_38 rfl (lv_at hl 0 rfl) ?_
    refine lv_iload_n hx hb dX7_way_39 rfl (lv_at hl 1 rfl) ?_
    refine lv_iload hx hb dX7_way_40 (lv_at hl 4 rfl) ?_
    obtain ⟨y27, hy27, hD⟩ := bd_s hD
    refine r_calli (r_runV (As := [.int v1, .int v4]) (rest := []) X I (c_X7_maySit l g q _ σ v1 v4 hy27) kv_X7_maySit ml_X7_202 rfl (by decide) (eM_Model g q _) ⟨Nat.le_of_ble_eq_true rfl, Nat.le_of_ble_eq_true rfl⟩ ⟨Nat.zero_le _, Nat.zero_le _⟩ rfl rfl hl.1 (Nat.le_of_ble_eq_true rfl) dX7_way_42) I (fun H locs I => ?_)
    refine lv_if_eq (tgt := 63) hx hb dX7_way_45 (by decide) (fun hc28 => ?_) (fun hc28 => ?_)
    · have hD := ite_p hc28 hD
      exact w_X7_way_63 g q X σ v1 v2 v3 v4 rc31 hrc31 hD _ _ _ I (lv_sub hl [0, 1, 2, 3, 4] rfl)
    · have hD := ite_n hc28 hD
      refine lv_aload_n hx hb dX7_way_48 rfl (lv_at hl 0 rfl) ?_
      refine lv_iload_n hx hb dX7_way_49 rfl (lv_at hl 1 rfl) ?_
      refine lv_iload hx hb dX7_way_50 (lv_at hl 4 rfl) ?_
      obtain ⟨y32, hy32, hD⟩ := bd_s hD
      refine r_calli (r_runV (As := [.int v1, .int v4]) (rest := []) X I (c_X7_ageBy l g q _ σ v1 v4 hy32) kv_X7_ageBy ml_X7_177 rfl (by decide) (eM_Model g q _) ⟨Nat.le_of_ble_eq_true rfl, Nat.le_of_ble_eq_true rfl⟩ ⟨Nat.zero_le _, Nat.zero_le _⟩ rfl rfl hl.1 (Nat.le_of_ble_eq_true rfl) dX7_way_52) I (fun H locs I => ?_)
      refine lv_iload_n hx hb dX7_way_55 rfl (lv_at hl 2 rfl) ?_
      refine lv_icmp_ne (tgt := 63) hx hb dX7_way_56 (by decide) (fun hc34 => ?_) (fun hc34 => ?_)
      · have hD := ite_n hc34 hD
        exact w_X7_way_63 g q X σ v1 v2 v3 v4 rc31 hrc31 hD _ _ _ I (lv_sub hl [0, 1, 2, 3, 4] rfl)
      · have hD := ite_p hc34 hD
        refine lv_iconst (v := 1) hx hb dX7_way_59 (by decide) ?_
        refine lv_goto (tgt := 64) hx hb dX7_way_60 (by decide) ?_
        exact w_X7_way_64 g q X σ v1 v2 v3 v4 (1 : Int32) rc31 hrc31 hD _ _ _ I (lv_sub hl [0, 1, 2, 3, 4] rfl)
def D_X7_way_31 (σ : St) (v1 : Int32) (v2 : Int32) : Nat → Int32 → Int32 → Option Int32
  | 0 => fun _ _ => none
  | n + 1 => fun v3 v4 => D_X7_way_31b σ (D_X7_way_31 σ v1 v2 n) v1 v2 v3 v4
set_option maxRecDepth 100000 in
set_option maxHeartbeats 4000000 in
theorem w_X7_way_31 {p : Program} {l : Launch} {e : Env} {s : State} {m : MethodId} {args : Array Value} {below : List Frame} {meth : Method} {c : Code} (g : Gh) (q : Nat → Nat) (X : MX p s m args meth c cX7_way 6 (some .int) RX7) {rr : Int32} (σ : St)  (v1 : Int32) (v2 : Int32) : ∀ (n : Nat) (v3 : Int32) (v4 : Int32), D_X7_way_31 σ v1 v2 n v3 v4 = some rr → ∀ (H : Heap) (locs : List Loc) (ls : Array Slot), IM g q s σ H locs → lv_has ls 6 [(0, .ref (q 0)), (1, .int v1), (2, .int v2), (3, .int v3), (4, .int v4)] → W p l e (rmD 3) s m args below meth c H locs 0 0 (MQ below (QI g (eM g q) q 22 rr σ s.heap.size) args s 0 0 (AQ q 22 s.heap.size)) (F0 m 31 ls []) := by
  intro n
  induction n with
  | zero =>
    intro v3 v4 hD H locs ls I hl
    cases hD
  | succ n ih =>
    intro v3 v4 hD H locs ls I hl
    exact w_X7_way_31b g q X σ v1 v2 v3 v4 _ ih hD H locs ls I hl
def D_X7_way (σ : St) (p1 : Int32) (p2 : Int32) : Option Int32 := (D_X7_noRider σ p1).bind fun y3 => if y3 = 0 then (D_X7_in σ p2.toInt64 (0 : Int64) (199 : Int64)).bind fun y9 => if y9 = 0 then some (-2 : Int32) else D_X7_way_31 σ p1 p2 FU (-9 : Int32) (0 : Int32) else some (-1 : Int32)
set_option maxRecDepth 100000 in
set_option maxHeartbeats 4000000 in
theorem c_X7_way (l : Launch) (g : Gh) (q : Nat → Nat) (sz : Nat) (σ : St) (p1 : Int32) (p2 : Int32) {rr : Int32} (hD : D_X7_way σ p1 p2 = some rr) : Met l yX7_way (wU yX7_way cX7_way 6 (some .int)) (rmD 3) (PQ g (eM g q) q 22 σ sz [.ref (q 0), .int p1, .int p2]) (QI g (eM g q) q 22 rr σ sz) 0 0 (AQ q 22 sz) := by
  refine met_of (Qc := QI g (eM g q) q 22 rr σ) (by decide) (Nat.le_of_ble_eq_true rfl) ?_
  intro p e s m below meth c ls X I hl
  have hx := X.1
  have hb := X.2.1
  have hl : lv_has ls 6 [(0, .ref (q 0)), (1, .int p1), (2, .int p2)] := hl
  unfold D_X7_way at hD
  refine lv_aload_n hx hb dX7_way_0 rfl (lv_at hl 0 rfl) ?_
  refine lv_iload_n hx hb dX7_way_1 rfl (lv_at hl 1 rfl) ?_
  obtain ⟨y3, hy3, hD⟩ := bd_s hD
  refine r_calli (r_runV (As := [.int p1]) (rest := []) X I (c_X7_noRider l g q _ σ p1 hy3) kv_X7_noRider ml_X7_158 rfl (by decide) (eM_Model g q _) ⟨Nat.le_of_ble_eq_true rfl, Nat.le_of_ble_eq_true rfl⟩ ⟨Nat.zero_le _, Nat.zero_le _⟩ rfl rfl hl.1 (Nat.le_of_ble_eq_true rfl) dX7_way_2) I (fun H locs I => ?_)
  refine lv_if_eq (tgt := 10) hx hb dX7_way_5 (by decide) (fun hc4 => ?_) (fun hc4 => ?_)
  · have hD := ite_p hc4 hD
    refine lv_iload_n hx hb dX7_way_10 rfl (lv_at hl 2 rfl) ?_
    refine lv_i2l hx hb dX7_way_11 rfl ?_
    refine lv_lconst (v := 0) hx hb dX7_way_12 rfl ?_
    refine lv_ldc2 (v := 199) hx hb X.2.2.2.2.1 (X.2.2.2.2.2.1 _ cl_X7_200) dX7_way_13 ?_
    obtain ⟨y9, hy9, hD⟩ := bd_s hD
    refine r_calli (r_runS (As := [.long p2.toInt64, .long (0 : Int64), .long (199 : Int64)]) (rest := []) X I (c_X7_in l g q _ σ p2.toInt64 (0 : Int64) (199 : Int64) hy9) ks_X7_in ml_X7_87 ⟨Nat.le_of_ble_eq_true rfl, Nat.le_of_ble_eq_true rfl⟩ ⟨Nat.zero_le _, Nat.zero_le _⟩ rfl rfl hl.1 (Nat.le_of_ble_eq_true rfl) dX7_way_16) I (fun H locs I => ?_)
    refine lv_if_ne (tgt := 25) hx hb dX7_way_19 (by decide) (fun hc10 => ?_) (fun hc10 => ?_)
    · have hD := ite_n hc10 hD
      refine lv_bipush (v := -9) hx hb dX7_way_25 (by decide) ?_
      refine lv_istore_n (lv' := [(3, .int (-9 : Int32)), (0, .ref (q 0)), (1, .int p1), (2, .int p2)]) hx hb dX7_way_27 rfl hl (by decide) rfl (fun ls hl => ?_)
      refine lv_iconst (v := 0) hx hb dX7_way_28 (by decide) ?_
      refine lv_istore (lv' := [(4, .int (0 : Int32)), (3, .int (-9 : Int32)), (0, .ref (q 0)), (1, .int p1), (2, .int p2)]) hx hb dX7_way_29 hl (by decide) rfl (fun ls hl => ?_)
      exact w_X7_way_31 g q X σ p1 p2 FU (-9 : Int32) (0 : Int32) hD _ _ _ I (lv_sub hl [2, 3, 4, 1, 0] rfl)
    · have hD := ite_p hc10 hD
      refine lv_bipush (v := -2) hx hb dX7_way_22 (by decide) ?_
      exact r_iret X I hD dX7_way_24
  · have hD := ite_n hc4 hD
    refine lv_iconst (v := -1) hx hb dX7_way_8 (by decide) ?_
    exact r_iret X I hD dX7_way_9

/-! YearDeckModel.spread(I)I -/
def D_X7_spread_47 (σ : St) (rc19 : Int32 → Int32 → Option Int32) (v1 : Int32) (v3 : Int32) (t0 : Int32) (t1 : Int32) : Option Int32 := rc19 (t1 + t0) (v3 + (1 : Int32))
set_option maxRecDepth 100000 in
set_option maxHeartbeats 4000000 in
theorem w_X7_spread_47 {p : Program} {l : Launch} {e : Env} {s : State} {m : MethodId} {args : Array Value} {below : List Frame} {meth : Method} {c : Code} (g : Gh) (q : Nat → Nat) (X : MX p s m args meth c cX7_spread 4 (some .int) RX7) {rr : Int32} (σ : St)  (v1 : Int32) (v3 : Int32) (t0 : Int32) (t1 : Int32) (rc19 : Int32 → Int32 → Option Int32) (hrc19 : ∀ (v2' : Int32) (v3' : Int32), rc19 v2' v3' = some rr → ∀ (H : Heap) (locs : List Loc) (ls : Array Slot), IM g q s σ H locs → lv_has ls 4 [(0, .ref (q 0)), (1, .int v1), (2, .int v2'), (3, .int v3')] → W p l e (rmD 4) s m args below meth c H locs 0 0 (MQ below (QI g (eM g q) q 22 rr σ s.heap.size) args s 0 0 (AQ q 22 s.heap.size)) (F0 m 19 ls [])) (hD : D_X7_spread_47 σ rc19 v1 v3 t0 t1 = some rr) (H : Heap) (locs : List Loc) (ls : Array Slot) (I : IM g q s σ H locs) (hl : lv_has ls 4 [(0, .ref (q 0)), (1, .int v1), (3, .int v3)]) : W p l e (rmD 4) s m args below meth c H locs 0 0 (MQ below (QI g (eM g q) q 22 rr σ s.heap.size) args s 0 0 (AQ q 22 s.heap.size)) (F0 m 47 ls [.int t0, .int t1]) := by
  have hx := X.1
  have hb := X.2.1
  unfold D_X7_spread_47 at hD
  refine lv_iadd hx hb dX7_spread_47 ?_
  refine lv_istore_n (lv' := [(2, .int (t1 + t0)), (0, .ref (q 0)), (1, .int v1), (3, .int v3)]) hx hb dX7_spread_48 rfl hl (by decide) rfl (fun ls hl => ?_)
  refine lv_iinc (v := v3 + (1 : Int32)) (lv' := [(3, .int (v3 + (1 : Int32))), (2, .int (t1 + t0)), (0, .ref (q 0)), (1, .int v1)]) hx hb dX7_spread_49 hl (k := 3) rfl rfl (by decide) rfl (fun ls hl => ?_)
  refine lv_goto (tgt := 19) hx hb dX7_spread_52 (by decide) ?_
  exact hrc19 (t1 + t0) (v3 + (1 : Int32)) hD _ _ _ I (lv_sub hl [2, 3, 1, 0] rfl)
def D_X7_spread_19b (σ : St) (rc19 : Int32 → Int32 → Option Int32) (v1 : Int32) (v2 : Int32) (v3 : Int32) : Option Int32 := gd (inb v1 4) (if ((σ 5 v1.toNatClampNeg) + (20 : Int32)) < v3 then some v2 else (D_X7_way σ v1 v3).bind fun y28 => if y28 < 0 then D_X7_spread_47 σ rc19 v1 v3 (0 : Int32) v2 else D_X7_spread_47 σ rc19 v1 v3 (1 : Int32) v2)
set_option maxRecDepth 100000 in
set_option maxHeartbeats 4000000 in
theorem w_X7_spread_19b {p : Program} {l : Launch} {e : Env} {s : State} {m : MethodId} {args : Array Value} {below : List Frame} {meth : Method} {c : Code} (g : Gh) (q : Nat → Nat) (X : MX p s m args meth c cX7_spread 4 (some .int) RX7) {rr : Int32} (σ : St)  (v1 : Int32) (v2 : Int32) (v3 : Int32) (rc19 : Int32 → Int32 → Option Int32) (hrc19 : ∀ (v2' : Int32) (v3' : Int32), rc19 v2' v3' = some rr → ∀ (H : Heap) (locs : List Loc) (ls : Array Slot), IM g q s σ H locs → lv_has ls 4 [(0, .ref (q 0)), (1, .int v1), (2, .int v2'), (3, .int v3')] → W p l e (rmD 4) s m args below meth c H locs 0 0 (MQ below (QI g (eM g q) q 22 rr σ s.heap.size) args s 0 0 (AQ q 22 s.heap.size)) (F0 m 19 ls [])) (hD : D_X7_spread_19b σ rc19 v1 v2 v3 = some rr) (H : Heap) (locs : List Loc) (ls : Array Slot) (I : IM g q s σ H locs) (hl : lv_has ls 4 [(0, .ref (q 0)), (1, .int v1), (2, .int v2), (3, .int v3)]) : W p l e (rmD 4) s m args below meth c H locs 0 0 (MQ below (QI g (eM g q) q 22 rr σ s.heap.size) args s 0 0 (AQ q 22 s.heap.size)) (F0 m 19 ls []) := by
  have hx := X.1
  have hb := X.2.1
  unfold D_X7_spread_19b at hD
  refine lv_iload_n hx hb dX7_spread_19 rfl (lv_at hl 3 rfl) ?_
  refine lv_aload_n hx hb dX7_spread_20 rfl (lv_at hl 0 rfl) ?_
  refine g_Model_ageOf X I fl_X7_22 dX7_spread_21 ?_
  refine lv_iload_n hx hb dX7_spread_24 rfl (lv_at hl 1 rfl) ?_
  obtain ⟨hg18, hD⟩ := gd_s hD
  refine r_iald X I (by decide) ((eMa_5 g q) _) hg18 dX7_spread_25 ?_
  refine lv_bipush (v := 20) hx hb dX7_spread_26 (by decide) ?_
  refine lv_iadd hx hb dX7_spread_28 ?_
  refine lv_icmp_gt (tgt := 55) hx hb dX7_spread_29 (by decide) (fun hc21 => ?_) (fun hc21 => ?_)
  · have hD := ite_p hc21 hD
    refine lv_iload_n hx hb dX7_spread_55 rfl (lv_at hl 2 rfl) ?_
    exact r_iret X I hD dX7_spread_56
  · have hD := ite_n hc21 hD
    refine lv_iload_n hx hb dX7_spread_32 rfl (lv_at hl 2 rfl) ?_
    refine lv_aload_n hx hb dX7_spread_33 rfl (lv_at hl 0 rfl) ?_
    refine lv_iload_n hx hb dX7_spread_34 rfl (lv_at hl 1 rfl) ?_
    refine lv_iload_n hx hb dX7_spread_35 rfl (lv_at hl 3 rfl) ?_
    obtain ⟨y28, hy28, hD⟩ := bd_s hD
    refine r_calli (r_runV (As := [.int v1, .int v3]) (rest := [.int v2]) X I (c_X7_way l g q _ σ v1 v3 hy28) kv_X7_way ml_X7_205 rfl (by decide) (eM_Model g q _) ⟨Nat.le_of_ble_eq_true rfl, Nat.le_of_ble_eq_true rfl⟩ ⟨Nat.zero_le _, Nat.zero_le _⟩ rfl rfl hl.1 (Nat.le_of_ble_eq_true rfl) dX7_spread_36) I (fun H locs I => ?_)
    refine lv_if_lt (tgt := 46) hx hb dX7_spread_39 (by decide) (fun hc29 => ?_) (fun hc29 => ?_)
    · have hD := ite_p hc29 hD
      refine lv_iconst (v := 0) hx hb dX7_spread_46 (by decide) ?_
      exact w_X7_spread_47 g q X σ v1 v3 (0 : Int32) v2 rc19 hrc19 hD _ _ _ I (lv_sub hl [0, 1, 3] rfl)
    · have hD := ite_n hc29 hD
      refine lv_iconst (v := 1) hx hb dX7_spread_42 (by decide) ?_
      refine lv_goto (tgt := 47) hx hb dX7_spread_43 (by decide) ?_
      exact w_X7_spread_47 g q X σ v1 v3 (1 : Int32) v2 rc19 hrc19 hD _ _ _ I (lv_sub hl [0, 1, 3] rfl)
def D_X7_spread_19 (σ : St) (v1 : Int32) : Nat → Int32 → Int32 → Option Int32
  | 0 => fun _ _ => none
  | n + 1 => fun v2 v3 => D_X7_spread_19b σ (D_X7_spread_19 σ v1 n) v1 v2 v3
set_option maxRecDepth 100000 in
set_option maxHeartbeats 4000000 in
theorem w_X7_spread_19 {p : Program} {l : Launch} {e : Env} {s : State} {m : MethodId} {args : Array Value} {below : List Frame} {meth : Method} {c : Code} (g : Gh) (q : Nat → Nat) (X : MX p s m args meth c cX7_spread 4 (some .int) RX7) {rr : Int32} (σ : St)  (v1 : Int32) : ∀ (n : Nat) (v2 : Int32) (v3 : Int32), D_X7_spread_19 σ v1 n v2 v3 = some rr → ∀ (H : Heap) (locs : List Loc) (ls : Array Slot), IM g q s σ H locs → lv_has ls 4 [(0, .ref (q 0)), (1, .int v1), (2, .int v2), (3, .int v3)] → W p l e (rmD 4) s m args below meth c H locs 0 0 (MQ below (QI g (eM g q) q 22 rr σ s.heap.size) args s 0 0 (AQ q 22 s.heap.size)) (F0 m 19 ls []) := by
  intro n
  induction n with
  | zero =>
    intro v2 v3 hD H locs ls I hl
    cases hD
  | succ n ih =>
    intro v2 v3 hD H locs ls I hl
    exact w_X7_spread_19b g q X σ v1 v2 v3 _ ih hD H locs ls I hl
def D_X7_spread (σ : St) (p1 : Int32) : Option Int32 := (D_X7_noRider σ p1).bind fun y3 => if y3 = 0 then gd (inb p1 4) (D_X7_spread_19 σ p1 FU (0 : Int32) (σ 5 p1.toNatClampNeg)) else some (-1 : Int32)
set_option maxRecDepth 100000 in
set_option maxHeartbeats 4000000 in
theorem c_X7_spread (l : Launch) (g : Gh) (q : Nat → Nat) (sz : Nat) (σ : St) (p1 : Int32) {rr : Int32} (hD : D_X7_spread σ p1 = some rr) : Met l yX7_spread (wU yX7_spread cX7_spread 4 (some .int)) (rmD 4) (PQ g (eM g q) q 22 σ sz [.ref (q 0), .int p1]) (QI g (eM g q) q 22 rr σ sz) 0 0 (AQ q 22 sz) := by
  refine met_of (Qc := QI g (eM g q) q 22 rr σ) (by decide) (Nat.le_of_ble_eq_true rfl) ?_
  intro p e s m below meth c ls X I hl
  have hx := X.1
  have hb := X.2.1
  have hl : lv_has ls 4 [(0, .ref (q 0)), (1, .int p1)] := hl
  unfold D_X7_spread at hD
  refine lv_aload_n hx hb dX7_spread_0 rfl (lv_at hl 0 rfl) ?_
  refine lv_iload_n hx hb dX7_spread_1 rfl (lv_at hl 1 rfl) ?_
  obtain ⟨y3, hy3, hD⟩ := bd_s hD
  refine r_calli (r_runV (As := [.int p1]) (rest := []) X I (c_X7_noRider l g q _ σ p1 hy3) kv_X7_noRider ml_X7_158 rfl (by decide) (eM_Model g q _) ⟨Nat.le_of_ble_eq_true rfl, Nat.le_of_ble_eq_true rfl⟩ ⟨Nat.zero_le _, Nat.zero_le _⟩ rfl rfl hl.1 (Nat.le_of_ble_eq_true rfl) dX7_spread_2) I (fun H locs I => ?_)
  refine lv_if_eq (tgt := 10) hx hb dX7_spread_5 (by decide) (fun hc4 => ?_) (fun hc4 => ?_)
  · have hD := ite_p hc4 hD
    refine lv_iconst (v := 0) hx hb dX7_spread_10 (by decide) ?_
    refine lv_istore_n (lv' := [(2, .int (0 : Int32)), (0, .ref (q 0)), (1, .int p1)]) hx hb dX7_spread_11 rfl hl (by decide) rfl (fun ls hl => ?_)
    refine lv_aload_n hx hb dX7_spread_12 rfl (lv_at hl 1 rfl) ?_
    refine g_Model_ageOf X I fl_X7_22 dX7_spread_13 ?_
    refine lv_iload_n hx hb dX7_spread_16 rfl (lv_at hl 2 rfl) ?_
    obtain ⟨hg10, hD⟩ := gd_s hD
    refine r_iald X I (by decide) ((eMa_5 g q) _) hg10 dX7_spread_17 ?_
    refine lv_istore_n (lv' := [(3, .int (σ 5 p1.toNatClampNeg)), (2, .int (0 : Int32)), (0, .ref (q 0)), (1, .int p1)]) hx hb dX7_spread_18 rfl hl (by decide) rfl (fun ls hl => ?_)
    exact w_X7_spread_19 g q X σ p1 FU (0 : Int32) (σ 5 p1.toNatClampNeg) hD _ _ _ I (lv_sub hl [2, 3, 1, 0] rfl)
  · have hD := ite_n hc4 hD
    refine lv_iconst (v := -1) hx hb dX7_spread_8 (by decide) ?_
    exact r_iret X I hD dX7_spread_9

/-! YearDeckModel.haveSeats(II)Z -/
def D_X7_haveSeats (σ : St) (p1 : Int32) (p2 : Int32) : Option Int32 := if (p1 &&& p2) = 0 then some (1 : Int32) else if (σ 0 1) ≤ (1 : Int32) then some (0 : Int32) else some (1 : Int32)
set_option maxRecDepth 100000 in
set_option maxHeartbeats 4000000 in
theorem c_X7_haveSeats (l : Launch) (g : Gh) (q : Nat → Nat) (sz : Nat) (σ : St) (p1 : Int32) (p2 : Int32) {rr : Int32} (hD : D_X7_haveSeats σ p1 p2 = some rr) : Met l yX7_haveSeats (wU yX7_haveSeats cX7_haveSeats 3 (some .boolean)) (rmD 0) (PQ g (eM g q) q 22 σ sz [.ref (q 0), .int p1, .int p2]) (QI g (eM g q) q 22 rr σ sz) 0 0 (AQ q 22 sz) := by
  refine met_of (Qc := QI g (eM g q) q 22 rr σ) (by decide) (Nat.le_of_ble_eq_true rfl) ?_
  intro p e s m below meth c ls X I hl
  have hx := X.1
  have hb := X.2.1
  have hl : lv_has ls 3 [(0, .ref (q 0)), (1, .int p1), (2, .int p2)] := hl
  unfold D_X7_haveSeats at hD
  refine lv_iload_n hx hb dX7_haveSeats_0 rfl (lv_at hl 1 rfl) ?_
  refine lv_iload_n hx hb dX7_haveSeats_1 rfl (lv_at hl 2 rfl) ?_
  refine lv_iand hx hb dX7_haveSeats_2 ?_
  refine lv_if_eq (tgt := 14) hx hb dX7_haveSeats_3 (by decide) (fun hc4 => ?_) (fun hc4 => ?_)
  · have hD := ite_p hc4 hD
    refine lv_iconst (v := 1) hx hb dX7_haveSeats_14 (by decide) ?_
    refine lv_goto (tgt := 19) hx hb dX7_haveSeats_15 (by decide) ?_
    exact r_zret X I hD rfl dX7_haveSeats_19
  · have hD := ite_n hc4 hD
    refine lv_aload_n hx hb dX7_haveSeats_6 rfl (lv_at hl 0 rfl) ?_
    refine g_Model_seats X I fl_X7_152 dX7_haveSeats_7 ?_
    refine lv_iconst (v := 1) hx hb dX7_haveSeats_10 (by decide) ?_
    refine lv_icmp_le (tgt := 18) hx hb dX7_haveSeats_11 (by decide) (fun hc11 => ?_) (fun hc11 => ?_)
    · have hD := ite_p hc11 hD
      refine lv_iconst (v := 0) hx hb dX7_haveSeats_18 (by decide) ?_
      exact r_zret X I hD rfl dX7_haveSeats_19
    · have hD := ite_n hc11 hD
      refine lv_iconst (v := 1) hx hb dX7_haveSeats_14 (by decide) ?_
      refine lv_goto (tgt := 19) hx hb dX7_haveSeats_15 (by decide) ?_
      exact r_zret X I hD rfl dX7_haveSeats_19

/-! YearDeckModel.agree(III)I -/
def D_X7_agree_178 (σ : St) (v3 : Int32) (v4 : Int32) (v5 : Int32) (v6 : Int32) : Option Int32 := if v3 = 0 then some v4 else if v3 = (1 : Int32) then some v5 else some v6
set_option maxRecDepth 100000 in
set_option maxHeartbeats 4000000 in
theorem w_X7_agree_178 {p : Program} {l : Launch} {e : Env} {s : State} {m : MethodId} {args : Array Value} {below : List Frame} {meth : Method} {c : Code} (g : Gh) (q : Nat → Nat) (X : MX p s m args meth c cX7_agree 12 (some .int) RX7) {rr : Int32} (σ : St)  (v3 : Int32) (v4 : Int32) (v5 : Int32) (v6 : Int32) (hD : D_X7_agree_178 σ v3 v4 v5 v6 = some rr) (H : Heap) (locs : List Loc) (ls : Array Slot) (I : IM g q s σ H locs) (hl : lv_has ls 12 [(3, .int v3), (4, .int v4), (5, .int v5), (6, .int v6)]) : W p l e (rmD 3) s m args below meth c H locs 0 0 (MQ below (QI g (eM g q) q 22 rr σ s.heap.size) args s 0 0 (AQ q 22 s.heap.size)) (F0 m 178 ls []) := by
  have hx := X.1
  have hb := X.2.1
  unfold D_X7_agree_178 at hD
  refine lv_iload_n hx hb dX7_agree_178 rfl (lv_at hl 0 rfl) ?_
  refine lv_if_ne (tgt := 187) hx hb dX7_agree_179 (by decide) (fun hc78 => ?_) (fun hc78 => ?_)
  · have hD := ite_n hc78 hD
    refine lv_iload_n hx hb dX7_agree_187 rfl (lv_at hl 0 rfl) ?_
    refine lv_iconst (v := 1) hx hb dX7_agree_188 (by decide) ?_
    refine lv_icmp_ne (tgt := 197) hx hb dX7_agree_189 (by decide) (fun hc81 => ?_) (fun hc81 => ?_)
    · have hD := ite_n hc81 hD
      refine lv_iload hx hb dX7_agree_197 (lv_at hl 3 rfl) ?_
      exact r_iret X I hD dX7_agree_199
    · have hD := ite_p hc81 hD
      refine lv_iload hx hb dX7_agree_192 (lv_at hl 2 rfl) ?_
      refine lv_goto (tgt := 199) hx hb dX7_agree_194 (by decide) ?_
      exact r_iret X I hD dX7_agree_199
  · have hD := ite_p hc78 hD
    refine lv_iload hx hb dX7_agree_182 (lv_at hl 1 rfl) ?_
    refine lv_goto (tgt := 199) hx hb dX7_agree_184 (by decide) ?_
    exact r_iret X I hD dX7_agree_199
def D_X7_agree_172 (σ : St) (rc53 : Int32 → Int32 → Int32 → Int32 → Option Int32) (v1 : Int32) (v2 : Int32) (v3 : Int32) (v4 : Int32) (v5 : Int32) (v6 : Int32) (v7 : Int32) : Option Int32 := rc53 v4 v5 v6 (v7 + (1 : Int32))
set_option maxRecDepth 100000 in
set_option maxHeartbeats 4000000 in
theorem w_X7_agree_172 {p : Program} {l : Launch} {e : Env} {s : State} {m : MethodId} {args : Array Value} {below : List Frame} {meth : Method} {c : Code} (g : Gh) (q : Nat → Nat) (X : MX p s m args meth c cX7_agree 12 (some .int) RX7) {rr : Int32} (σ : St)  (v1 : Int32) (v2 : Int32) (v3 : Int32) (v4 : Int32) (v5 : Int32) (v6 : Int32) (v7 : Int32) (rc53 : Int32 → Int32 → Int32 → Int32 → Option Int32) (hrc53 : ∀ (v4' : Int32) (v5' : Int32) (v6' : Int32) (v7' : Int32), rc53 v4' v5' v6' v7' = some rr → ∀ (H : Heap) (locs : List Loc) (ls : Array Slot), IM g q s σ H locs → lv_has ls 12 [(0, .ref (q 0)), (1, .int v1), (2, .int v2), (3, .int v3), (4, .int v4'), (5, .int v5'), (6, .int v6'), (7, .int v7')] → W p l e (rmD 3) s m args below meth c H locs 0 0 (MQ below (QI g (eM g q) q 22 rr σ s.heap.size) args s 0 0 (AQ q 22 s.heap.size)) (F0 m 53 ls [])) (hD : D_X7_agree_172 σ rc53 v1 v2 v3 v4 v5 v6 v7 = some rr) (H : Heap) (locs : List Loc) (ls : Array Slot) (I : IM g q s σ H locs) (hl : lv_has ls 12 [(0, .ref (q 0)), (1, .int v1), (2, .int v2), (3, .int v3), (4, .int v4), (5, .int v5), (6, .int v6), (7, .int v7)]) : W p l e (rmD 3) s m args below meth c H locs 0 0 (MQ below (QI g (eM g q) q 22 rr σ s.heap.size) args s 0 0 (AQ q 22 s.heap.size)) (F0 m 172 ls []) := by
  have hx := X.1
  have hb := X.2.1
  unfold D_X7_agree_172 at hD
  refine lv_iinc (v := v7 + (1 : Int32)) (lv' := [(7, .int (v7 + (1 : Int32))), (0, .ref (q 0)), (1, .int v1), (2, .int v2), (3, .int v3), (4, .int v4), (5, .int v5), (6, .int v6)]) hx hb dX7_agree_172 hl (k := 7) rfl rfl (by decide) rfl (fun ls hl => ?_)
  refine lv_goto (tgt := 53) hx hb dX7_agree_175 (by decide) ?_
  exact hrc53 v4 v5 v6 (v7 + (1 : Int32)) hD _ _ _ I (lv_sub hl [1, 2, 3, 4, 5, 6, 7, 0] rfl)
def D_X7_agree_160 (σ : St) (rc53 : Int32 → Int32 → Int32 → Int32 → Option Int32) (v1 : Int32) (v2 : Int32) (v3 : Int32) (v7 : Int32) (v8 : Int32) (v9 : Int32) (v10 : Int32) : Option Int32 := D_X7_agree_172 σ rc53 v1 v2 v3 v10 v8 v9 v7
set_option maxRecDepth 100000 in
set_option maxHeartbeats 4000000 in
theorem w_X7_agree_160 {p : Program} {l : Launch} {e : Env} {s : State} {m : MethodId} {args : Array Value} {below : List Frame} {meth : Method} {c : Code} (g : Gh) (q : Nat → Nat) (X : MX p s m args meth c cX7_agree 12 (some .int) RX7) {rr : Int32} (σ : St)  (v1 : Int32) (v2 : Int32) (v3 : Int32) (v7 : Int32) (v8 : Int32) (v9 : Int32) (v10 : Int32) (rc53 : Int32 → Int32 → Int32 → Int32 → Option Int32) (hrc53 : ∀ (v4' : Int32) (v5' : Int32) (v6' : Int32) (v7' : Int32), rc53 v4' v5' v6' v7' = some rr → ∀ (H : Heap) (locs : List Loc) (ls : Array Slot), IM g q s σ H locs → lv_has ls 12 [(0, .ref (q 0)), (1, .int v1), (2, .int v2), (3, .int v3), (4, .int v4'), (5, .int v5'), (6, .int v6'), (7, .int v7')] → W p l e (rmD 3) s m args below meth c H locs 0 0 (MQ below (QI g (eM g q) q 22 rr σ s.heap.size) args s 0 0 (AQ q 22 s.heap.size)) (F0 m 53 ls [])) (hD : D_X7_agree_160 σ rc53 v1 v2 v3 v7 v8 v9 v10 = some rr) (H : Heap) (locs : List Loc) (ls : Array Slot) (I : IM g q s σ H locs) (hl : lv_has ls 12 [(0, .ref (q 0)), (1, .int v1), (2, .int v2), (3, .int v3), (7, .int v7), (8, .int v8), (9, .int v9), (10, .int v10)]) : W p l e (rmD 3) s m args below meth c H locs 0 0 (MQ below (QI g (eM g q) q 22 rr σ s.heap.size) args s 0 0 (AQ q 22 s.heap.size)) (F0 m 160 ls []) := by
  have hx := X.1
  have hb := X.2.1
  unfold D_X7_agree_160 at hD
  refine lv_iload hx hb dX7_agree_160 (lv_at hl 7 rfl) ?_
  refine lv_istore (lv' := [(4, .int v10), (0, .ref (q 0)), (1, .int v1), (2, .int v2), (3, .int v3), (7, .int v7), (8, .int v8), (9, .int v9), (10, .int v10)]) hx hb dX7_agree_162 hl (by decide) rfl (fun ls hl => ?_)
  refine lv_iload hx hb dX7_agree_164 (lv_at hl 6 rfl) ?_
  refine lv_istore (lv' := [(5, .int v8), (4, .int v10), (0, .ref (q 0)), (1, .int v1), (2, .int v2), (3, .int v3), (7, .int v7), (8, .int v8), (9, .int v9), (10, .int v10)]) hx hb dX7_agree_166 hl (by decide) rfl (fun ls hl => ?_)
  refine lv_iload hx hb dX7_agree_168 (lv_at hl 8 rfl) ?_
  refine lv_istore (lv' := [(6, .int v9), (5, .int v8), (4, .int v10), (0, .ref (q 0)), (1, .int v1), (2, .int v2), (3, .int v3), (7, .int v7), (8, .int v8), (9, .int v9), (10, .int v10)]) hx hb dX7_agree_170 hl (by decide) rfl (fun ls hl => ?_)
  exact w_X7_agree_172 g q X σ v1 v2 v3 v10 v8 v9 v7 rc53 hrc53 hD _ _ _ I (lv_sub hl [3, 4, 5, 6, 2, 1, 0, 7] rfl)
def D_X7_agree_141 (σ : St) (rc53 : Int32 → Int32 → Int32 → Int32 → Option Int32) (v1 : Int32) (v2 : Int32) (v3 : Int32) (v4 : Int32) (v5 : Int32) (v6 : Int32) (v7 : Int32) (v8 : Int32) (v9 : Int32) (v10 : Int32) (t0 : Int32) : Option Int32 := if t0 = 0 then D_X7_agree_172 σ rc53 v1 v2 v3 v4 v5 v6 v7 else if v4 < 0 then D_X7_agree_160 σ rc53 v1 v2 v3 v7 v8 v9 v10 else if v4 ≤ v10 then D_X7_agree_172 σ rc53 v1 v2 v3 v4 v5 v6 v7 else D_X7_agree_160 σ rc53 v1 v2 v3 v7 v8 v9 v10
set_option maxRecDepth 100000 in
set_option maxHeartbeats 4000000 in
theorem w_X7_agree_141 {p : Program} {l : Launch} {e : Env} {s : State} {m : MethodId} {args : Array Value} {below : List Frame} {meth : Method} {c : Code} (g : Gh) (q : Nat → Nat) (X : MX p s m args meth c cX7_agree 12 (some .int) RX7) {rr : Int32} (σ : St)  (v1 : Int32) (v2 : Int32) (v3 : Int32) (v4 : Int32) (v5 : Int32) (v6 : Int32) (v7 : Int32) (v8 : Int32) (v9 : Int32) (v10 : Int32) (t0 : Int32) (rc53 : Int32 → Int32 → Int32 → Int32 → Option Int32) (hrc53 : ∀ (v4' : Int32) (v5' : Int32) (v6' : Int32) (v7' : Int32), rc53 v4' v5' v6' v7' = some rr → ∀ (H : Heap) (locs : List Loc) (ls : Array Slot), IM g q s σ H locs → lv_has ls 12 [(0, .ref (q 0)), (1, .int v1), (2, .int v2), (3, .int v3), (4, .int v4'), (5, .int v5'), (6, .int v6'), (7, .int v7')] → W p l e (rmD 3) s m args below meth c H locs 0 0 (MQ below (QI g (eM g q) q 22 rr σ s.heap.size) args s 0 0 (AQ q 22 s.heap.size)) (F0 m 53 ls [])) (hD : D_X7_agree_141 σ rc53 v1 v2 v3 v4 v5 v6 v7 v8 v9 v10 t0 = some rr) (H : Heap) (locs : List Loc) (ls : Array Slot) (I : IM g q s σ H locs) (hl : lv_has ls 12 [(0, .ref (q 0)), (1, .int v1), (2, .int v2), (3, .int v3), (4, .int v4), (5, .int v5), (6, .int v6), (7, .int v7), (8, .int v8), (9, .int v9), (10, .int v10)]) : W p l e (rmD 3) s m args below meth c H locs 0 0 (MQ below (QI g (eM g q) q 22 rr σ s.heap.size) args s 0 0 (AQ q 22 s.heap.size)) (F0 m 141 ls [.int t0]) := by
  have hx := X.1
  have hb := X.2.1
  unfold D_X7_agree_141 at hD
  refine lv_istore (lv' := [(11, .int t0), (0, .ref (q 0)), (1, .int v1), (2, .int v2), (3, .int v3), (4, .int v4), (5, .int v5), (6, .int v6), (7, .int v7), (8, .int v8), (9, .int v9), (10, .int v10)]) hx hb dX7_agree_141 hl (by decide) rfl (fun ls hl => ?_)
  refine lv_iload hx hb dX7_agree_143 (lv_at hl 0 rfl) ?_
  refine lv_if_eq (tgt := 172) hx hb dX7_agree_145 (by decide) (fun hc93 => ?_) (fun hc93 => ?_)
  · have hD := ite_p hc93 hD
    exact w_X7_agree_172 g q X σ v1 v2 v3 v4 v5 v6 v7 rc53 hrc53 hD _ _ _ I (lv_sub hl [1, 2, 3, 4, 5, 6, 7, 8] rfl)
  · have hD := ite_n hc93 hD
    refine lv_iload hx hb dX7_agree_148 (lv_at hl 5 rfl) ?_
    refine lv_if_lt (tgt := 160) hx hb dX7_agree_150 (by decide) (fun hc95 => ?_) (fun hc95 => ?_)
    · have hD := ite_p hc95 hD
      exact w_X7_agree_160 g q X σ v1 v2 v3 v7 v8 v9 v10 rc53 hrc53 hD _ _ _ I (lv_sub hl [1, 2, 3, 4, 8, 9, 10, 11] rfl)
    · have hD := ite_n hc95 hD
      refine lv_iload hx hb dX7_agree_153 (lv_at hl 11 rfl) ?_
      refine lv_iload hx hb dX7_agree_155 (lv_at hl 5 rfl) ?_
      refine lv_icmp_ge (tgt := 172) hx hb dX7_agree_157 (by decide) (fun hc98 => ?_) (fun hc98 => ?_)
      · have hD := ite_p hc98 hD
        exact w_X7_agree_172 g q X σ v1 v2 v3 v4 v5 v6 v7 rc53 hrc53 hD _ _ _ I (lv_sub hl [1, 2, 3, 4, 5, 6, 7, 8] rfl)
      · have hD := ite_n hc98 hD
        exact w_X7_agree_160 g q X σ v1 v2 v3 v7 v8 v9 v10 rc53 hrc53 hD _ _ _ I (lv_sub hl [1, 2, 3, 4, 8, 9, 10, 11] rfl)
def D_X7_agree_140 (σ : St) (rc53 : Int32 → Int32 → Int32 → Int32 → Option Int32) (v1 : Int32) (v2 : Int32) (v3 : Int32) (v4 : Int32) (v5 : Int32) (v6 : Int32) (v7 : Int32) (v8 : Int32) (v9 : Int32) (v10 : Int32) : Option Int32 := D_X7_agree_141 σ rc53 v1 v2 v3 v4 v5 v6 v7 v8 v9 v10 (0 : Int32)
set_option maxRecDepth 100000 in
set_option maxHeartbeats 4000000 in
theorem w_X7_agree_140 {p : Program} {l : Launch} {e : Env} {s : State} {m : MethodId} {args : Array Value} {below : List Frame} {meth : Method} {c : Code} (g : Gh) (q : Nat → Nat) (X : MX p s m args meth c cX7_agree 12 (some .int) RX7) {rr : Int32} (σ : St)  (v1 : Int32) (v2 : Int32) (v3 : Int32) (v4 : Int32) (v5 : Int32) (v6 : Int32) (v7 : Int32) (v8 : Int32) (v9 : Int32) (v10 : Int32) (rc53 : Int32 → Int32 → Int32 → Int32 → Option Int32) (hrc53 : ∀ (v4' : Int32) (v5' : Int32) (v6' : Int32) (v7' : Int32), rc53 v4' v5' v6' v7' = some rr → ∀ (H : Heap) (locs : List Loc) (ls : Array Slot), IM g q s σ H locs → lv_has ls 12 [(0, .ref (q 0)), (1, .int v1), (2, .int v2), (3, .int v3), (4, .int v4'), (5, .int v5'), (6, .int v6'), (7, .int v7')] → W p l e (rmD 3) s m args below meth c H locs 0 0 (MQ below (QI g (eM g q) q 22 rr σ s.heap.size) args s 0 0 (AQ q 22 s.heap.size)) (F0 m 53 ls [])) (hD : D_X7_agree_140 σ rc53 v1 v2 v3 v4 v5 v6 v7 v8 v9 v10 = some rr) (H : Heap) (locs : List Loc) (ls : Array Slot) (I : IM g q s σ H locs) (hl : lv_has ls 12 [(0, .ref (q 0)), (1, .int v1), (2, .int v2), (3, .int v3), (4, .int v4), (5, .int v5), (6, .int v6), (7, .int v7), (8, .int v8), (9, .int v9), (10, .int v10)]) : W p l e (rmD 3) s m args below meth c H locs 0 0 (MQ below (QI g (eM g q) q 22 rr σ s.heap.size) args s 0 0 (AQ q 22 s.heap.size)) (F0 m 140 ls []) := by
  have hx := X.1
  have hb := X.2.1
  unfold D_X7_agree_140 at hD
  refine lv_iconst (v := 0) hx hb dX7_agree_140 (by decide) ?_
  exact w_X7_agree_141 g q X σ v1 v2 v3 v4 v5 v6 v7 v8 v9 v10 (0 : Int32) rc53 hrc53 hD _ _ _ I (lv_sub hl [0, 1, 2, 3, 4, 5, 6, 7, 8, 9, 10] rfl)
def D_X7_agree_53b (σ : St) (rc53 : Int32 → Int32 → Int32 → Int32 → Option Int32) (v1 : Int32) (v2 : Int32) (v3 : Int32) (v4 : Int32) (v5 : Int32) (v6 : Int32) (v7 : Int32) : Option Int32 := if (1024 : Int32) ≤ v7 then D_X7_agree_178 σ v3 v4 v5 v6 else (D_X7_bits σ (v7 / (32 : Int32))).bind fun y46 => (D_X7_bits σ (v7 - v7 / (32 : Int32) * (32 : Int32))).bind fun y48 => (D_X7_maySit σ v1 (v7 / (32 : Int32))).bind fun y54 => if y54 = 0 then D_X7_agree_140 σ rc53 v1 v2 v3 v4 v5 v6 v7 (v7 / (32 : Int32)) (v7 - v7 / (32 : Int32) * (32 : Int32)) (y46 + y48) else (D_X7_maySit σ v2 (v7 - v7 / (32 : Int32) * (32 : Int32))).bind fun y59 => if y59 = 0 then D_X7_agree_140 σ rc53 v1 v2 v3 v4 v5 v6 v7 (v7 / (32 : Int32)) (v7 - v7 / (32 : Int32) * (32 : Int32)) (y46 + y48) else (D_X7_haveSeats σ (v7 / (32 : Int32)) (v7 - v7 / (32 : Int32) * (32 : Int32))).bind fun y64 => if y64 = 0 then D_X7_agree_140 σ rc53 v1 v2 v3 v4 v5 v6 v7 (v7 / (32 : Int32)) (v7 - v7 / (32 : Int32) * (32 : Int32)) (y46 + y48) else (D_X7_ageBy σ v1 (v7 / (32 : Int32))).bind fun y69 => (D_X7_ageBy σ v2 (v7 - v7 / (32 : Int32) * (32 : Int32))).bind fun y73 => if y69 = y73 then D_X7_agree_141 σ rc53 v1 v2 v3 v4 v5 v6 v7 (v7 / (32 : Int32)) (v7 - v7 / (32 : Int32) * (32 : Int32)) (y46 + y48) (1 : Int32) else D_X7_agree_140 σ rc53 v1 v2 v3 v4 v5 v6 v7 (v7 / (32 : Int32)) (v7 - v7 / (32 : Int32) * (32 : Int32)) (y46 + y48)
set_option maxRecDepth 100000 in
set_option maxHeartbeats 4000000 in
theorem w_X7_agree_53b {p : Program} {l : Launch} {e : Env} {s : State} {m : MethodId} {args : Array Value} {below : List Frame} {meth : Method} {c : Code} (g : Gh) (q : Nat → Nat) (X : MX p s m args meth c cX7_agree 12 (some .int) RX7) {rr : Int32} (σ : St)  (v1 : Int32) (v2 : Int32) (v3 : Int32) (v4 : Int32) (v5 : Int32) (v6 : Int32) (v7 : Int32) (rc53 : Int32 → Int32 → Int32 → Int32 → Option Int32) (hrc53 : ∀ (v4' : Int32) (v5' : Int32) (v6' : Int32) (v7' : Int32), rc53 v4' v5' v6' v7' = some rr → ∀ (H : Heap) (locs : List Loc) (ls : Array Slot), IM g q s σ H locs → lv_has ls 12 [(0, .ref (q 0)), (1, .int v1), (2, .int v2), (3, .int v3), (4, .int v4'), (5, .int v5'), (6, .int v6'), (7, .int v7')] → W p l e (rmD 3) s m args below meth c H locs 0 0 (MQ below (QI g (eM g q) q 22 rr σ s.heap.size) args s 0 0 (AQ q 22 s.heap.size)) (F0 m 53 ls [])) (hD : D_X7_agree_53b σ rc53 v1 v2 v3 v4 v5 v6 v7 = some rr) (H : Heap) (locs : List Loc) (ls : Array Slot) (I : IM g q s σ H locs) (hl : lv_has ls 12 [(0, .ref (q 0)), (1, .int v1), (2, .int v2), (3, .int v3), (4, .int v4), (5, .int v5), (6, .int v6), (7, .int v7)]) : W p l e (rmD 3) s m args below meth c H locs 0 0 (MQ below (QI g (eM g q) q 22 rr σ s.heap.size) args s 0 0 (AQ q 22 s.heap.size)) (F0 m 53 ls []) := by
  have hx := X.1
  have hb := X.2.1
  unfold D_X7_agree_53b at hD
  refine lv_iload hx hb dX7_agree_53 (lv_at hl 7 rfl) ?_
  refine lv_sipush (v := 1024) hx hb dX7_agree_55 (by decide) ?_
  refine lv_icmp_ge (tgt := 178) hx hb dX7_agree_58 (by decide) (fun hc36 => ?_) (fun hc36 => ?_)
  · have hD := ite_p hc36 hD
    exact w_X7_agree_178 g q X σ v3 v4 v5 v6 hD _ _ _ I (lv_sub hl [3, 4, 5, 6] rfl)
  · have hD := ite_n hc36 hD
    refine lv_iload hx hb dX7_agree_61 (lv_at hl 7 rfl) ?_
    refine lv_bipush (v := 32) hx hb dX7_agree_63 (by decide) ?_
    refine lv_idiv hx hb dX7_agree_65 (by decide) ?_
    refine lv_istore (lv' := [(8, .int (v7 / (32 : Int32))), (0, .ref (q 0)), (1, .int v1), (2, .int v2), (3, .int v3), (4, .int v4), (5, .int v5), (6, .int v6), (7, .int v7)]) hx hb dX7_agree_66 hl (by decide) rfl (fun ls hl => ?_)
    refine lv_iload hx hb dX7_agree_68 (lv_at hl 8 rfl) ?_
    refine lv_bipush (v := 32) hx hb dX7_agree_70 (by decide) ?_
    refine lv_irem hx hb dX7_agree_72 (by decide) ?_
    refine lv_istore (lv' := [(9, .int (v7 - v7 / (32 : Int32) * (32 : Int32))), (8, .int (v7 / (32 : Int32))), (0, .ref (q 0)), (1, .int v1), (2, .int v2), (3, .int v3), (4, .int v4), (5, .int v5), (6, .int v6), (7, .int v7)]) hx hb dX7_agree_73 hl (by decide) rfl (fun ls hl => ?_)
    refine lv_iload hx hb dX7_agree_75 (lv_at hl 1 rfl) ?_
    obtain ⟨y46, hy46, hD⟩ := bd_s hD
    refine r_calli (r_runS (As := [.int (v7 / (32 : Int32))]) (rest := []) X I (c_X7_bits l g q _ σ (v7 / (32 : Int32)) hy46) ks_X7_bits ml_X7_186 ⟨Nat.le_of_ble_eq_true rfl, Nat.le_of_ble_eq_true rfl⟩ ⟨Nat.zero_le _, Nat.zero_le _⟩ rfl rfl hl.1 (Nat.le_of_ble_eq_true rfl) dX7_agree_77) I (fun H locs I => ?_)
    refine lv_iload hx hb dX7_agree_80 (lv_at hl 0 rfl) ?_
    obtain ⟨y48, hy48, hD⟩ := bd_s hD
    refine r_calli (r_runS (As := [.int (v7 - v7 / (32 : Int32) * (32 : Int32))]) (rest := [.int y46]) X I (c_X7_bits l g q _ σ (v7 - v7 / (32 : Int32) * (32 : Int32)) hy48) ks_X7_bits ml_X7_186 ⟨Nat.le_of_ble_eq_true rfl, Nat.le_of_ble_eq_true rfl⟩ ⟨Nat.zero_le _, Nat.zero_le _⟩ rfl rfl hl.1 (Nat.le_of_ble_eq_true rfl) dX7_agree_82) I (fun H locs I => ?_)
    refine lv_iadd hx hb dX7_agree_85 ?_
    refine lv_istore (lv' := [(10, .int (y46 + y48)), (9, .int (v7 - v7 / (32 : Int32) * (32 : Int32))), (8, .int (v7 / (32 : Int32))), (0, .ref (q 0)), (1, .int v1), (2, .int v2), (3, .int v3), (4, .int v4), (5, .int v5), (6, .int v6), (7, .int v7)]) hx hb dX7_agree_86 hl (by decide) rfl (fun ls hl => ?_)
    refine lv_aload_n hx hb dX7_agree_88 rfl (lv_at hl 3 rfl) ?_
    refine lv_iload_n hx hb dX7_agree_89 rfl (lv_at hl 4 rfl) ?_
    refine lv_iload hx hb dX7_agree_90 (lv_at hl 2 rfl) ?_
    obtain ⟨y54, hy54, hD⟩ := bd_s hD
    refine r_calli (r_runV (As := [.int v1, .int (v7 / (32 : Int32))]) (rest := []) X I (c_X7_maySit l g q _ σ v1 (v7 / (32 : Int32)) hy54) kv_X7_maySit ml_X7_202 rfl (by decide) (eM_Model g q _) ⟨Nat.le_of_ble_eq_true rfl, Nat.le_of_ble_eq_true rfl⟩ ⟨Nat.zero_le _, Nat.zero_le _⟩ rfl rfl hl.1 (Nat.le_of_ble_eq_true rfl) dX7_agree_92) I (fun H locs I => ?_)
    refine lv_if_eq (tgt := 140) hx hb dX7_agree_95 (by decide) (fun hc55 => ?_) (fun hc55 => ?_)
    · have hD := ite_p hc55 hD
      exact w_X7_agree_140 g q X σ v1 v2 v3 v4 v5 v6 v7 (v7 / (32 : Int32)) (v7 - v7 / (32 : Int32) * (32 : Int32)) (y46 + y48) rc53 hrc53 hD _ _ _ I (lv_sub hl [3, 4, 5, 6, 7, 8, 9, 10, 2, 1, 0] rfl)
    · have hD := ite_n hc55 hD
      refine lv_aload_n hx hb dX7_agree_98 rfl (lv_at hl 3 rfl) ?_
      refine lv_iload_n hx hb dX7_agree_99 rfl (lv_at hl 5 rfl) ?_
      refine lv_iload hx hb dX7_agree_100 (lv_at hl 1 rfl) ?_
      obtain ⟨y59, hy59, hD⟩ := bd_s hD
      refine r_calli (r_runV (As := [.int v2, .int (v7 - v7 / (32 : Int32) * (32 : Int32))]) (rest := []) X I (c_X7_maySit l g q _ σ v2 (v7 - v7 / (32 : Int32) * (32 : Int32)) hy59) kv_X7_maySit ml_X7_202 rfl (by decide) (eM_Model g q _) ⟨Nat.le_of_ble_eq_true rfl, Nat.le_of_ble_eq_true rfl⟩ ⟨Nat.zero_le _, Nat.zero_le _⟩ rfl rfl hl.1 (Nat.le_of_ble_eq_true rfl) dX7_agree_102) I (fun H locs I => ?_)
      refine lv_if_eq (tgt := 140) hx hb dX7_agree_105 (by decide) (fun hc60 => ?_) (fun hc60 => ?_)
      · have hD := ite_p hc60 hD
        exact w_X7_agree_140 g q X σ v1 v2 v3 v4 v5 v6 v7 (v7 / (32 : Int32)) (v7 - v7 / (32 : Int32) * (32 : Int32)) (y46 + y48) rc53 hrc53 hD _ _ _ I (lv_sub hl [3, 4, 5, 6, 7, 8, 9, 10, 2, 1, 0] rfl)
      · have hD := ite_n hc60 hD
        refine lv_aload_n hx hb dX7_agree_108 rfl (lv_at hl 3 rfl) ?_
        refine lv_iload hx hb dX7_agree_109 (lv_at hl 2 rfl) ?_
        refine lv_iload hx hb dX7_agree_111 (lv_at hl 1 rfl) ?_
        obtain ⟨y64, hy64, hD⟩ := bd_s hD
        refine r_calli (r_runV (As := [.int (v7 / (32 : Int32)), .int (v7 - v7 / (32 : Int32) * (32 : Int32))]) (rest := []) X I (c_X7_haveSeats l g q _ σ (v7 / (32 : Int32)) (v7 - v7 / (32 : Int32) * (32 : Int32)) hy64) kv_X7_haveSeats ml_X7_208 rfl (by decide) (eM_Model g q _) ⟨Nat.le_of_ble_eq_true rfl, Nat.le_of_ble_eq_true rfl⟩ ⟨Nat.zero_le _, Nat.zero_le _⟩ rfl rfl hl.1 (Nat.le_of_ble_eq_true rfl) dX7_agree_113) I (fun H locs I => ?_)
        refine lv_if_eq (tgt := 140) hx hb dX7_agree_116 (by decide) (fun hc65 => ?_) (fun hc65 => ?_)
        · have hD := ite_p hc65 hD
          exact w_X7_agree_140 g q X σ v1 v2 v3 v4 v5 v6 v7 (v7 / (32 : Int32)) (v7 - v7 / (32 : Int32) * (32 : Int32)) (y46 + y48) rc53 hrc53 hD _ _ _ I (lv_sub hl [3, 4, 5, 6, 7, 8, 9, 10, 2, 1, 0] rfl)
        · have hD := ite_n hc65 hD
          refine lv_aload_n hx hb dX7_agree_119 rfl (lv_at hl 3 rfl) ?_
          refine lv_iload_n hx hb dX7_agree_120 rfl (lv_at hl 4 rfl) ?_
          refine lv_iload hx hb dX7_agree_121 (lv_at hl 2 rfl) ?_
          obtain ⟨y69, hy69, hD⟩ := bd_s hD
          refine r_calli (r_runV (As := [.int v1, .int (v7 / (32 : Int32))]) (rest := []) X I (c_X7_ageBy l g q _ σ v1 (v7 / (32 : Int32)) hy69) kv_X7_ageBy ml_X7_177 rfl (by decide) (eM_Model g q _) ⟨Nat.le_of_ble_eq_true rfl, Nat.le_of_ble_eq_true rfl⟩ ⟨Nat.zero_le _, Nat.zero_le _⟩ rfl rfl hl.1 (Nat.le_of_ble_eq_true rfl) dX7_agree_123) I (fun H locs I => ?_)
          refine lv_aload_n hx hb dX7_agree_126 rfl (lv_at hl 3 rfl) ?_
          refine lv_iload_n hx hb dX7_agree_127 rfl (lv_at hl 5 rfl) ?_
          refine lv_iload hx hb dX7_agree_128 (lv_at hl 1 rfl) ?_
          obtain ⟨y73, hy73, hD⟩ := bd_s hD
          refine r_calli (r_runV (As := [.int v2, .int (v7 - v7 / (32 : Int32) * (32 : Int32))]) (rest := [.int y69]) X I (c_X7_ageBy l g q _ σ v2 (v7 - v7 / (32 : Int32) * (32 : Int32)) hy73) kv_X7_ageBy ml_X7_177 rfl (by decide) (eM_Model g q _) ⟨Nat.le_of_ble_eq_true rfl, Nat.le_of_ble_eq_true rfl⟩ ⟨Nat.zero_le _, Nat.zero_le _⟩ rfl rfl hl.1 (Nat.le_of_ble_eq_true rfl) dX7_agree_130) I (fun H locs I => ?_)
          refine lv_icmp_ne (tgt := 140) hx hb dX7_agree_133 (by decide) (fun hc74 => ?_) (fun hc74 => ?_)
          · have hD := ite_n hc74 hD
            exact w_X7_agree_140 g q X σ v1 v2 v3 v4 v5 v6 v7 (v7 / (32 : Int32)) (v7 - v7 / (32 : Int32) * (32 : Int32)) (y46 + y48) rc53 hrc53 hD _ _ _ I (lv_sub hl [3, 4, 5, 6, 7, 8, 9, 10, 2, 1, 0] rfl)
          · have hD := ite_p hc74 hD
            refine lv_iconst (v := 1) hx hb dX7_agree_136 (by decide) ?_
            refine lv_goto (tgt := 141) hx hb dX7_agree_137 (by decide) ?_
            exact w_X7_agree_141 g q X σ v1 v2 v3 v4 v5 v6 v7 (v7 / (32 : Int32)) (v7 - v7 / (32 : Int32) * (32 : Int32)) (y46 + y48) (1 : Int32) rc53 hrc53 hD _ _ _ I (lv_sub hl [3, 4, 5, 6, 7, 8, 9, 10, 2, 1, 0] rfl)
def D_X7_agree_53 (σ : St) (v1 : Int32) (v2 : Int32) (v3 : Int32) : Nat → Int32 → Int32 → Int32 → Int32 → Option Int32
  | 0 => fun _ _ _ _ => none
  | n + 1 => fun v4 v5 v6 v7 => D_X7_agree_53b σ (D_X7_agree_53 σ v1 v2 v3 n) v1 v2 v3 v4 v5 v6 v7
set_option maxRecDepth 100000 in
set_option maxHeartbeats 4000000 in
theorem w_X7_agree_53 {p : Program} {l : Launch} {e : Env} {s : State} {m : MethodId} {args : Array Value} {below : List Frame} {meth : Method} {c : Code} (g : Gh) (q : Nat → Nat) (X : MX p s m args meth c cX7_agree 12 (some .int) RX7) {rr : Int32} (σ : St)  (v1 : Int32) (v2 : Int32) (v3 : Int32) : ∀ (n : Nat) (v4 : Int32) (v5 : Int32) (v6 : Int32) (v7 : Int32), D_X7_agree_53 σ v1 v2 v3 n v4 v5 v6 v7 = some rr → ∀ (H : Heap) (locs : List Loc) (ls : Array Slot), IM g q s σ H locs → lv_has ls 12 [(0, .ref (q 0)), (1, .int v1), (2, .int v2), (3, .int v3), (4, .int v4), (5, .int v5), (6, .int v6), (7, .int v7)] → W p l e (rmD 3) s m args below meth c H locs 0 0 (MQ below (QI g (eM g q) q 22 rr σ s.heap.size) args s 0 0 (AQ q 22 s.heap.size)) (F0 m 53 ls []) := by
  intro n
  induction n with
  | zero =>
    intro v4 v5 v6 v7 hD H locs ls I hl
    cases hD
  | succ n ih =>
    intro v4 v5 v6 v7 hD H locs ls I hl
    exact w_X7_agree_53b g q X σ v1 v2 v3 v4 v5 v6 v7 _ ih hD H locs ls I hl
def D_X7_agree (σ : St) (p1 : Int32) (p2 : Int32) (p3 : Int32) : Option Int32 := (D_X7_noRider σ p1).bind fun y3 => if y3 = 0 then (D_X7_noRider σ p2).bind fun y9 => if y9 = 0 then if p1 = p2 then some (-1 : Int32) else (D_X7_in σ p3.toInt64 (0 : Int64) (2 : Int64)).bind fun y20 => if y20 = 0 then some (-2 : Int32) else D_X7_agree_53 σ p1 p2 p3 FU (-9 : Int32) (-9 : Int32) (-9 : Int32) (0 : Int32) else some (-1 : Int32) else some (-1 : Int32)
set_option maxRecDepth 100000 in
set_option maxHeartbeats 4000000 in
theorem c_X7_agree (l : Launch) (g : Gh) (q : Nat → Nat) (sz : Nat) (σ : St) (p1 : Int32) (p2 : Int32) (p3 : Int32) {rr : Int32} (hD : D_X7_agree σ p1 p2 p3 = some rr) : Met l yX7_agree (wU yX7_agree cX7_agree 12 (some .int)) (rmD 3) (PQ g (eM g q) q 22 σ sz [.ref (q 0), .int p1, .int p2, .int p3]) (QI g (eM g q) q 22 rr σ sz) 0 0 (AQ q 22 sz) := by
  refine met_of (Qc := QI g (eM g q) q 22 rr σ) (by decide) (Nat.le_of_ble_eq_true rfl) ?_
  intro p e s m below meth c ls X I hl
  have hx := X.1
  have hb := X.2.1
  have hl : lv_has ls 12 [(0, .ref (q 0)), (1, .int p1), (2, .int p2), (3, .int p3)] := hl
  unfold D_X7_agree at hD
  refine lv_aload_n hx hb dX7_agree_0 rfl (lv_at hl 0 rfl) ?_
  refine lv_iload_n hx hb dX7_agree_1 rfl (lv_at hl 1 rfl) ?_
  obtain ⟨y3, hy3, hD⟩ := bd_s hD
  refine r_calli (r_runV (As := [.int p1]) (rest := []) X I (c_X7_noRider l g q _ σ p1 hy3) kv_X7_noRider ml_X7_158 rfl (by decide) (eM_Model g q _) ⟨Nat.le_of_ble_eq_true rfl, Nat.le_of_ble_eq_true rfl⟩ ⟨Nat.zero_le _, Nat.zero_le _⟩ rfl rfl hl.1 (Nat.le_of_ble_eq_true rfl) dX7_agree_2) I (fun H locs I => ?_)
  refine lv_if_ne (tgt := 21) hx hb dX7_agree_5 (by decide) (fun hc4 => ?_) (fun hc4 => ?_)
  · have hD := ite_n hc4 hD
    refine lv_iconst (v := -1) hx hb dX7_agree_21 (by decide) ?_
    exact r_iret X I hD dX7_agree_22
  · have hD := ite_p hc4 hD
    refine lv_aload_n hx hb dX7_agree_8 rfl (lv_at hl 0 rfl) ?_
    refine lv_iload_n hx hb dX7_agree_9 rfl (lv_at hl 2 rfl) ?_
    obtain ⟨y9, hy9, hD⟩ := bd_s hD
    refine r_calli (r_runV (As := [.int p2]) (rest := []) X I (c_X7_noRider l g q _ σ p2 hy9) kv_X7_noRider ml_X7_158 rfl (by decide) (eM_Model g q _) ⟨Nat.le_of_ble_eq_true rfl, Nat.le_of_ble_eq_true rfl⟩ ⟨Nat.zero_le _, Nat.zero_le _⟩ rfl rfl hl.1 (Nat.le_of_ble_eq_true rfl) dX7_agree_10) I (fun H locs I => ?_)
    refine lv_if_ne (tgt := 21) hx hb dX7_agree_13 (by decide) (fun hc10 => ?_) (fun hc10 => ?_)
    · have hD := ite_n hc10 hD
      refine lv_iconst (v := -1) hx hb dX7_agree_21 (by decide) ?_
      exact r_iret X I hD dX7_agree_22
    · have hD := ite_p hc10 hD
      refine lv_iload_n hx hb dX7_agree_16 rfl (lv_at hl 1 rfl) ?_
      refine lv_iload_n hx hb dX7_agree_17 rfl (lv_at hl 2 rfl) ?_
      refine lv_icmp_ne (tgt := 23) hx hb dX7_agree_18 (by decide) (fun hc15 => ?_) (fun hc15 => ?_)
      · have hD := ite_n hc15 hD
        refine lv_iload_n hx hb dX7_agree_23 rfl (lv_at hl 3 rfl) ?_
        refine lv_i2l hx hb dX7_agree_24 rfl ?_
        refine lv_lconst (v := 0) hx hb dX7_agree_25 rfl ?_
        refine lv_ldc2 (v := 2) hx hb X.2.2.2.2.1 (X.2.2.2.2.2.1 _ cl_X7_143) dX7_agree_26 ?_
        obtain ⟨y20, hy20, hD⟩ := bd_s hD
        refine r_calli (r_runS (As := [.long p3.toInt64, .long (0 : Int64), .long (2 : Int64)]) (rest := []) X I (c_X7_in l g q _ σ p3.toInt64 (0 : Int64) (2 : Int64) hy20) ks_X7_in ml_X7_87 ⟨Nat.le_of_ble_eq_true rfl, Nat.le_of_ble_eq_true rfl⟩ ⟨Nat.zero_le _, Nat.zero_le _⟩ rfl rfl hl.1 (Nat.le_of_ble_eq_true rfl) dX7_agree_29) I (fun H locs I => ?_)
        refine lv_if_ne (tgt := 38) hx hb dX7_agree_32 (by decide) (fun hc21 => ?_) (fun hc21 => ?_)
        · have hD := ite_n hc21 hD
          refine lv_bipush (v := -9) hx hb dX7_agree_38 (by decide) ?_
          refine lv_istore (lv' := [(4, .int (-9 : Int32)), (0, .ref (q 0)), (1, .int p1), (2, .int p2), (3, .int p3)]) hx hb dX7_agree_40 hl (by decide) rfl (fun ls hl => ?_)
          refine lv_bipush (v := -9) hx hb dX7_agree_42 (by decide) ?_
          refine lv_istore (lv' := [(5, .int (-9 : Int32)), (4, .int (-9 : Int32)), (0, .ref (q 0)), (1, .int p1), (2, .int p2), (3, .int p3)]) hx hb dX7_agree_44 hl (by decide) rfl (fun ls hl => ?_)
          refine lv_bipush (v := -9) hx hb dX7_agree_46 (by decide) ?_
          refine lv_istore (lv' := [(6, .int (-9 : Int32)), (5, .int (-9 : Int32)), (4, .int (-9 : Int32)), (0, .ref (q 0)), (1, .int p1), (2, .int p2), (3, .int p3)]) hx hb dX7_agree_48 hl (by decide) rfl (fun ls hl => ?_)
          refine lv_iconst (v := 0) hx hb dX7_agree_50 (by decide) ?_
          refine lv_istore (lv' := [(7, .int (0 : Int32)), (6, .int (-9 : Int32)), (5, .int (-9 : Int32)), (4, .int (-9 : Int32)), (0, .ref (q 0)), (1, .int p1), (2, .int p2), (3, .int p3)]) hx hb dX7_agree_51 hl (by decide) rfl (fun ls hl => ?_)
          exact w_X7_agree_53 g q X σ p1 p2 p3 FU (-9 : Int32) (-9 : Int32) (-9 : Int32) (0 : Int32) hD _ _ _ I (lv_sub hl [4, 5, 6, 7, 3, 2, 1, 0] rfl)
        · have hD := ite_p hc21 hD
          refine lv_bipush (v := -2) hx hb dX7_agree_35 (by decide) ?_
          exact r_iret X I hD dX7_agree_37
      · have hD := ite_p hc15 hD
        refine lv_iconst (v := -1) hx hb dX7_agree_21 (by decide) ?_
        exact r_iret X I hD dX7_agree_22

/-! YearDeckModel.withOne(II)I -/
def D_X7_withOne_85 (σ : St) (v3 : Int32) (v4 : Int32) : Option Int32 := if v4 = 0 then some (-9 : Int32) else some v3
set_option maxRecDepth 100000 in
set_option maxHeartbeats 4000000 in
theorem w_X7_withOne_85 {p : Program} {l : Launch} {e : Env} {s : State} {m : MethodId} {args : Array Value} {below : List Frame} {meth : Method} {c : Code} (g : Gh) (q : Nat → Nat) (X : MX p s m args meth c cX7_withOne 7 (some .int) RX7) {rr : Int32} (σ : St)  (v3 : Int32) (v4 : Int32) (hD : D_X7_withOne_85 σ v3 v4 = some rr) (H : Heap) (locs : List Loc) (ls : Array Slot) (I : IM g q s σ H locs) (hl : lv_has ls 7 [(3, .int v3), (4, .int v4)]) : W p l e (rmD 1) s m args below meth c H locs 0 0 (MQ below (QI g (eM g q) q 22 rr σ s.heap.size) args s 0 0 (AQ q 22 s.heap.size)) (F0 m 85 ls []) := by
  have hx := X.1
  have hb := X.2.1
  unfold D_X7_withOne_85 at hD
  refine lv_iload hx hb dX7_withOne_85 (lv_at hl 1 rfl) ?_
  refine lv_if_eq (tgt := 94) hx hb dX7_withOne_87 (by decide) (fun hc30 => ?_) (fun hc30 => ?_)
  · have hD := ite_p hc30 hD
    refine lv_bipush (v := -9) hx hb dX7_withOne_94 (by decide) ?_
    exact r_iret X I hD dX7_withOne_96
  · have hD := ite_n hc30 hD
    refine lv_iload_n hx hb dX7_withOne_90 rfl (lv_at hl 0 rfl) ?_
    refine lv_goto (tgt := 96) hx hb dX7_withOne_91 (by decide) ?_
    exact r_iret X I hD dX7_withOne_96
def D_X7_withOne_77 (σ : St) (rc8 : Int32 → Int32 → Int32 → Option Int32) (v1 : Int32) (v2 : Int32) (v4 : Int32) (v5 : Int32) (t0 : Int32) (t1 : Int32) : Option Int32 := rc8 (t1 + t0) v4 (v5 + (1 : Int32))
set_option maxRecDepth 100000 in
set_option maxHeartbeats 4000000 in
theorem w_X7_withOne_77 {p : Program} {l : Launch} {e : Env} {s : State} {m : MethodId} {args : Array Value} {below : List Frame} {meth : Method} {c : Code} (g : Gh) (q : Nat → Nat) (X : MX p s m args meth c cX7_withOne 7 (some .int) RX7) {rr : Int32} (σ : St)  (v1 : Int32) (v2 : Int32) (v4 : Int32) (v5 : Int32) (t0 : Int32) (t1 : Int32) (rc8 : Int32 → Int32 → Int32 → Option Int32) (hrc8 : ∀ (v3' : Int32) (v4' : Int32) (v5' : Int32), rc8 v3' v4' v5' = some rr → ∀ (H : Heap) (locs : List Loc) (ls : Array Slot), IM g q s σ H locs → lv_has ls 7 [(0, .ref (q 0)), (1, .int v1), (2, .int v2), (3, .int v3'), (4, .int v4'), (5, .int v5')] → W p l e (rmD 1) s m args below meth c H locs 0 0 (MQ below (QI g (eM g q) q 22 rr σ s.heap.size) args s 0 0 (AQ q 22 s.heap.size)) (F0 m 8 ls [])) (hD : D_X7_withOne_77 σ rc8 v1 v2 v4 v5 t0 t1 = some rr) (H : Heap) (locs : List Loc) (ls : Array Slot) (I : IM g q s σ H locs) (hl : lv_has ls 7 [(0, .ref (q 0)), (1, .int v1), (2, .int v2), (4, .int v4), (5, .int v5)]) : W p l e (rmD 1) s m args below meth c H locs 0 0 (MQ below (QI g (eM g q) q 22 rr σ s.heap.size) args s 0 0 (AQ q 22 s.heap.size)) (F0 m 77 ls [.int t0, .int t1]) := by
  have hx := X.1
  have hb := X.2.1
  unfold D_X7_withOne_77 at hD
  refine lv_iadd hx hb dX7_withOne_77 ?_
  refine lv_istore_n (lv' := [(3, .int (t1 + t0)), (0, .ref (q 0)), (1, .int v1), (2, .int v2), (4, .int v4), (5, .int v5)]) hx hb dX7_withOne_78 rfl hl (by decide) rfl (fun ls hl => ?_)
  refine lv_iinc (v := v5 + (1 : Int32)) (lv' := [(5, .int (v5 + (1 : Int32))), (3, .int (t1 + t0)), (0, .ref (q 0)), (1, .int v1), (2, .int v2), (4, .int v4)]) hx hb dX7_withOne_79 hl (k := 5) rfl rfl (by decide) rfl (fun ls hl => ?_)
  refine lv_goto (tgt := 8) hx hb dX7_withOne_82 (by decide) ?_
  exact hrc8 (t1 + t0) v4 (v5 + (1 : Int32)) hD _ _ _ I (lv_sub hl [2, 3, 4, 1, 5, 0] rfl)
def D_X7_withOne_55 (σ : St) (rc8 : Int32 → Int32 → Int32 → Option Int32) (v1 : Int32) (v2 : Int32) (v3 : Int32) (v5 : Int32) (t0 : Int32) : Option Int32 := (D_X7_isIn σ v2 v5).bind fun y43 => if y43 = 0 then D_X7_withOne_77 σ rc8 v1 v2 t0 v5 (0 : Int32) v3 else D_X7_withOne_77 σ rc8 v1 v2 t0 v5 ((1 : Int32) <<< (((2 : Int32) * v5) &&& 31)) v3
set_option maxRecDepth 100000 in
set_option maxHeartbeats 4000000 in
theorem w_X7_withOne_55 {p : Program} {l : Launch} {e : Env} {s : State} {m : MethodId} {args : Array Value} {below : List Frame} {meth : Method} {c : Code} (g : Gh) (q : Nat → Nat) (X : MX p s m args meth c cX7_withOne 7 (some .int) RX7) {rr : Int32} (σ : St)  (v1 : Int32) (v2 : Int32) (v3 : Int32) (v5 : Int32) (t0 : Int32) (rc8 : Int32 → Int32 → Int32 → Option Int32) (hrc8 : ∀ (v3' : Int32) (v4' : Int32) (v5' : Int32), rc8 v3' v4' v5' = some rr → ∀ (H : Heap) (locs : List Loc) (ls : Array Slot), IM g q s σ H locs → lv_has ls 7 [(0, .ref (q 0)), (1, .int v1), (2, .int v2), (3, .int v3'), (4, .int v4'), (5, .int v5')] → W p l e (rmD 1) s m args below meth c H locs 0 0 (MQ below (QI g (eM g q) q 22 rr σ s.heap.size) args s 0 0 (AQ q 22 s.heap.size)) (F0 m 8 ls [])) (hD : D_X7_withOne_55 σ rc8 v1 v2 v3 v5 t0 = some rr) (H : Heap) (locs : List Loc) (ls : Array Slot) (I : IM g q s σ H locs) (hl : lv_has ls 7 [(0, .ref (q 0)), (1, .int v1), (2, .int v2), (3, .int v3), (5, .int v5)]) : W p l e (rmD 1) s m args below meth c H locs 0 0 (MQ below (QI g (eM g q) q 22 rr σ s.heap.size) args s 0 0 (AQ q 22 s.heap.size)) (F0 m 55 ls [.int t0]) := by
  have hx := X.1
  have hb := X.2.1
  unfold D_X7_withOne_55 at hD
  refine lv_istore (lv' := [(4, .int t0), (0, .ref (q 0)), (1, .int v1), (2, .int v2), (3, .int v3), (5, .int v5)]) hx hb dX7_withOne_55 hl (by decide) rfl (fun ls hl => ?_)
  refine lv_iload_n hx hb dX7_withOne_57 rfl (lv_at hl 4 rfl) ?_
  refine lv_iload_n hx hb dX7_withOne_58 rfl (lv_at hl 3 rfl) ?_
  refine lv_iload hx hb dX7_withOne_59 (lv_at hl 5 rfl) ?_
  obtain ⟨y43, hy43, hD⟩ := bd_s hD
  refine r_calli (r_runS (As := [.int v2, .int v5]) (rest := [.int v3]) X I (c_X7_isIn l g q _ σ v2 v5 hy43) ks_X7_isIn ml_X7_171 ⟨Nat.le_of_ble_eq_true rfl, Nat.le_of_ble_eq_true rfl⟩ ⟨Nat.zero_le _, Nat.zero_le _⟩ rfl rfl hl.1 (Nat.le_of_ble_eq_true rfl) dX7_withOne_61) I (fun H locs I => ?_)
  refine lv_if_eq (tgt := 76) hx hb dX7_withOne_64 (by decide) (fun hc44 => ?_) (fun hc44 => ?_)
  · have hD := ite_p hc44 hD
    refine lv_iconst (v := 0) hx hb dX7_withOne_76 (by decide) ?_
    exact w_X7_withOne_77 g q X σ v1 v2 t0 v5 (0 : Int32) v3 rc8 hrc8 hD _ _ _ I (lv_sub hl [1, 2, 3, 0, 5] rfl)
  · have hD := ite_n hc44 hD
    refine lv_iconst (v := 1) hx hb dX7_withOne_67 (by decide) ?_
    refine lv_iconst (v := 2) hx hb dX7_withOne_68 (by decide) ?_
    refine lv_iload hx hb dX7_withOne_69 (lv_at hl 5 rfl) ?_
    refine lv_imul hx hb dX7_withOne_71 ?_
    refine lv_ishl hx hb dX7_withOne_72 ?_
    refine lv_goto (tgt := 77) hx hb dX7_withOne_73 (by decide) ?_
    exact w_X7_withOne_77 g q X σ v1 v2 t0 v5 ((1 : Int32) <<< (((2 : Int32) * v5) &&& 31)) v3 rc8 hrc8 hD _ _ _ I (lv_sub hl [1, 2, 3, 0, 5] rfl)
def D_X7_withOne_54 (σ : St) (rc8 : Int32 → Int32 → Int32 → Option Int32) (v1 : Int32) (v2 : Int32) (v3 : Int32) (v5 : Int32) : Option Int32 := D_X7_withOne_55 σ rc8 v1 v2 v3 v5 (0 : Int32)
set_option maxRecDepth 100000 in
set_option maxHeartbeats 4000000 in
theorem w_X7_withOne_54 {p : Program} {l : Launch} {e : Env} {s : State} {m : MethodId} {args : Array Value} {below : List Frame} {meth : Method} {c : Code} (g : Gh) (q : Nat → Nat) (X : MX p s m args meth c cX7_withOne 7 (some .int) RX7) {rr : Int32} (σ : St)  (v1 : Int32) (v2 : Int32) (v3 : Int32) (v5 : Int32) (rc8 : Int32 → Int32 → Int32 → Option Int32) (hrc8 : ∀ (v3' : Int32) (v4' : Int32) (v5' : Int32), rc8 v3' v4' v5' = some rr → ∀ (H : Heap) (locs : List Loc) (ls : Array Slot), IM g q s σ H locs → lv_has ls 7 [(0, .ref (q 0)), (1, .int v1), (2, .int v2), (3, .int v3'), (4, .int v4'), (5, .int v5')] → W p l e (rmD 1) s m args below meth c H locs 0 0 (MQ below (QI g (eM g q) q 22 rr σ s.heap.size) args s 0 0 (AQ q 22 s.heap.size)) (F0 m 8 ls [])) (hD : D_X7_withOne_54 σ rc8 v1 v2 v3 v5 = some rr) (H : Heap) (locs : List Loc) (ls : Array Slot) (I : IM g q s σ H locs) (hl : lv_has ls 7 [(0, .ref (q 0)), (1, .int v1), (2, .int v2), (3, .int v3), (5, .int v5)]) : W p l e (rmD 1) s m args below meth c H locs 0 0 (MQ below (QI g (eM g q) q 22 rr σ s.heap.size) args s 0 0 (AQ q 22 s.heap.size)) (F0 m 54 ls []) := by
  have hx := X.1
  have hb := X.2.1
  unfold D_X7_withOne_54 at hD
  refine lv_iconst (v := 0) hx hb dX7_withOne_54 (by decide) ?_
  exact w_X7_withOne_55 g q X σ v1 v2 v3 v5 (0 : Int32) rc8 hrc8 hD _ _ _ I (lv_sub hl [0, 1, 2, 3, 4] rfl)
def D_X7_withOne_50 (σ : St) (rc8 : Int32 → Int32 → Int32 → Option Int32) (v1 : Int32) (v2 : Int32) (v3 : Int32) (v5 : Int32) : Option Int32 := D_X7_withOne_55 σ rc8 v1 v2 v3 v5 (1 : Int32)
set_option maxRecDepth 100000 in
set_option maxHeartbeats 4000000 in
theorem w_X7_withOne_50 {p : Program} {l : Launch} {e : Env} {s : State} {m : MethodId} {args : Array Value} {below : List Frame} {meth : Method} {c : Code} (g : Gh) (q : Nat → Nat) (X : MX p s m args meth c cX7_withOne 7 (some .int) RX7) {rr : Int32} (σ : St)  (v1 : Int32) (v2 : Int32) (v3 : Int32) (v5 : Int32) (rc8 : Int32 → Int32 → Int32 → Option Int32) (hrc8 : ∀ (v3' : Int32) (v4' : Int32) (v5' : Int32), rc8 v3' v4' v5' = some rr → ∀ (H : Heap) (locs : List Loc) (ls : Array Slot), IM g q s σ H locs → lv_has ls 7 [(0, .ref (q 0)), (1, .int v1), (2, .int v2), (3, .int v3'), (4, .int v4'), (5, .int v5')] → W p l e (rmD 1) s m args below meth c H locs 0 0 (MQ below (QI g (eM g q) q 22 rr σ s.heap.size) args s 0 0 (AQ q 22 s.heap.size)) (F0 m 8 ls [])) (hD : D_X7_withOne_50 σ rc8 v1 v2 v3 v5 = some rr) (H : Heap) (locs : List Loc) (ls : Array Slot) (I : IM g q s σ H locs) (hl : lv_has ls 7 [(0, .ref (q 0)), (1, .int v1), (2, .int v2), (3, .int v3), (5, .int v5)]) : W p l e (rmD 1) s m args below meth c H locs 0 0 (MQ below (QI g (eM g q) q 22 rr σ s.heap.size) args s 0 0 (AQ q 22 s.heap.size)) (F0 m 50 ls []) := by
  have hx := X.1
  have hb := X.2.1
  unfold D_X7_withOne_50 at hD
  refine lv_iconst (v := 1) hx hb dX7_withOne_50 (by decide) ?_
  refine lv_goto (tgt := 55) hx hb dX7_withOne_51 (by decide) ?_
  exact w_X7_withOne_55 g q X σ v1 v2 v3 v5 (1 : Int32) rc8 hrc8 hD _ _ _ I (lv_sub hl [0, 1, 2, 3, 4] rfl)
def D_X7_withOne_8b (σ : St) (rc8 : Int32 → Int32 → Int32 → Option Int32) (v1 : Int32) (v2 : Int32) (v3 : Int32) (v4 : Int32) (v5 : Int32) : Option Int32 := if (σ 0 2) ≤ v5 then D_X7_withOne_85 σ v3 v4 else if v4 = 0 then D_X7_withOne_54 σ rc8 v1 v2 v3 v5 else (D_X7_isIn σ v2 v5).bind fun y23 => if y23 = 0 then D_X7_withOne_50 σ rc8 v1 v2 v3 v5 else if (σ 0 1) ≤ ((v1 >>> (((2 : Int32) * v5) &&& 31)) &&& (3 : Int32)) then D_X7_withOne_54 σ rc8 v1 v2 v3 v5 else D_X7_withOne_50 σ rc8 v1 v2 v3 v5
set_option maxRecDepth 100000 in
set_option maxHeartbeats 4000000 in
theorem w_X7_withOne_8b {p : Program} {l : Launch} {e : Env} {s : State} {m : MethodId} {args : Array Value} {below : List Frame} {meth : Method} {c : Code} (g : Gh) (q : Nat → Nat) (X : MX p s m args meth c cX7_withOne 7 (some .int) RX7) {rr : Int32} (σ : St)  (v1 : Int32) (v2 : Int32) (v3 : Int32) (v4 : Int32) (v5 : Int32) (rc8 : Int32 → Int32 → Int32 → Option Int32) (hrc8 : ∀ (v3' : Int32) (v4' : Int32) (v5' : Int32), rc8 v3' v4' v5' = some rr → ∀ (H : Heap) (locs : List Loc) (ls : Array Slot), IM g q s σ H locs → lv_has ls 7 [(0, .ref (q 0)), (1, .int v1), (2, .int v2), (3, .int v3'), (4, .int v4'), (5, .int v5')] → W p l e (rmD 1) s m args below meth c H locs 0 0 (MQ below (QI g (eM g q) q 22 rr σ s.heap.size) args s 0 0 (AQ q 22 s.heap.size)) (F0 m 8 ls [])) (hD : D_X7_withOne_8b σ rc8 v1 v2 v3 v4 v5 = some rr) (H : Heap) (locs : List Loc) (ls : Array Slot) (I : IM g q s σ H locs) (hl : lv_has ls 7 [(0, .ref (q 0)), (1, .int v1), (2, .int v2), (3, .int v3), (4, .int v4), (5, .int v5)]) : W p l e (rmD 1) s m args below meth c H locs 0 0 (MQ below (QI g (eM g q) q 22 rr σ s.heap.size) args s 0 0 (AQ q 22 s.heap.size)) (F0 m 8 ls []) := by
  have hx := X.1
  have hb := X.2.1
  unfold D_X7_withOne_8b at hD
  refine lv_iload hx hb dX7_withOne_8 (lv_at hl 5 rfl) ?_
  refine lv_aload_n hx hb dX7_withOne_10 rfl (lv_at hl 0 rfl) ?_
  refine g_Model_sections X I fl_X7_84 dX7_withOne_11 ?_
  refine lv_icmp_ge (tgt := 85) hx hb dX7_withOne_14 (by decide) (fun hc10 => ?_) (fun hc10 => ?_)
  · have hD := ite_p hc10 hD
    exact w_X7_withOne_85 g q X σ v3 v4 hD _ _ _ I (lv_sub hl [3, 4] rfl)
  · have hD := ite_n hc10 hD
    refine lv_iload_n hx hb dX7_withOne_17 rfl (lv_at hl 1 rfl) ?_
    refine lv_iconst (v := 2) hx hb dX7_withOne_18 (by decide) ?_
    refine lv_iload hx hb dX7_withOne_19 (lv_at hl 5 rfl) ?_
    refine lv_imul hx hb dX7_withOne_21 ?_
    refine lv_ishr hx hb dX7_withOne_22 ?_
    refine lv_iconst (v := 3) hx hb dX7_withOne_23 (by decide) ?_
    refine lv_iand hx hb dX7_withOne_24 ?_
    refine lv_istore (lv' := [(6, .int ((v1 >>> (((2 : Int32) * v5) &&& 31)) &&& (3 : Int32))), (0, .ref (q 0)), (1, .int v1), (2, .int v2), (3, .int v3), (4, .int v4), (5, .int v5)]) hx hb dX7_withOne_25 hl (by decide) rfl (fun ls hl => ?_)
    refine lv_iload hx hb dX7_withOne_27 (lv_at hl 5 rfl) ?_
    refine lv_if_eq (tgt := 54) hx hb dX7_withOne_29 (by decide) (fun hc20 => ?_) (fun hc20 => ?_)
    · have hD := ite_p hc20 hD
      exact w_X7_withOne_54 g q X σ v1 v2 v3 v5 rc8 hrc8 hD _ _ _ I (lv_sub hl [1, 2, 3, 4, 6] rfl)
    · have hD := ite_n hc20 hD
      refine lv_iload_n hx hb dX7_withOne_32 rfl (lv_at hl 3 rfl) ?_
      refine lv_iload hx hb dX7_withOne_33 (lv_at hl 6 rfl) ?_
      obtain ⟨y23, hy23, hD⟩ := bd_s hD
      refine r_calli (r_runS (As := [.int v2, .int v5]) (rest := []) X I (c_X7_isIn l g q _ σ v2 v5 hy23) ks_X7_isIn ml_X7_171 ⟨Nat.le_of_ble_eq_true rfl, Nat.le_of_ble_eq_true rfl⟩ ⟨Nat.zero_le _, Nat.zero_le _⟩ rfl rfl hl.1 (Nat.le_of_ble_eq_true rfl) dX7_withOne_35) I (fun H locs I => ?_)
      refine lv_if_eq (tgt := 50) hx hb dX7_withOne_38 (by decide) (fun hc24 => ?_) (fun hc24 => ?_)
      · have hD := ite_p hc24 hD
        exact w_X7_withOne_50 g q X σ v1 v2 v3 v5 rc8 hrc8 hD _ _ _ I (lv_sub hl [1, 2, 3, 4, 6] rfl)
      · have hD := ite_n hc24 hD
        refine lv_iload hx hb dX7_withOne_41 (lv_at hl 0 rfl) ?_
        refine lv_aload_n hx hb dX7_withOne_43 rfl (lv_at hl 1 rfl) ?_
        refine g_Model_seats X I fl_X7_152 dX7_withOne_44 ?_
        refine lv_icmp_ge (tgt := 54) hx hb dX7_withOne_47 (by decide) (fun hc28 => ?_) (fun hc28 => ?_)
        · have hD := ite_p hc28 hD
          exact w_X7_withOne_54 g q X σ v1 v2 v3 v5 rc8 hrc8 hD _ _ _ I (lv_sub hl [1, 2, 3, 4, 6] rfl)
        · have hD := ite_n hc28 hD
          exact w_X7_withOne_50 g q X σ v1 v2 v3 v5 rc8 hrc8 hD _ _ _ I (lv_sub hl [1, 2, 3, 4, 6] rfl)
def D_X7_withOne_8 (σ : St) (v1 : Int32) (v2 : Int32) : Nat → Int32 → Int32 → Int32 → Option Int32
  | 0 => fun _ _ _ => none
  | n + 1 => fun v3 v4 v5 => D_X7_withOne_8b σ (D_X7_withOne_8 σ v1 v2 n) v1 v2 v3 v4 v5
set_option maxRecDepth 100000 in
set_option maxHeartbeats 4000000 in
theorem w_X7_withOne_8 {p : Program} {l : Launch} {e : Env} {s : State} {m : MethodId} {args : Array Value} {below : List Frame} {meth : Method} {c : Code} (g : Gh) (q : Nat → Nat) (X : MX p s m args meth c cX7_withOne 7 (some .int) RX7) {rr : Int32} (σ : St)  (v1 : Int32) (v2 : Int32) : ∀ (n : Nat) (v3 : Int32) (v4 : Int32) (v5 : Int32), D_X7_withOne_8 σ v1 v2 n v3 v4 v5 = some rr → ∀ (H : Heap) (locs : List Loc) (ls : Array Slot), IM g q s σ H locs → lv_has ls 7 [(0, .ref (q 0)), (1, .int v1), (2, .int v2), (3, .int v3), (4, .int v4), (5, .int v5)] → W p l e (rmD 1) s m args below meth c H locs 0 0 (MQ below (QI g (eM g q) q 22 rr σ s.heap.size) args s 0 0 (AQ q 22 s.heap.size)) (F0 m 8 ls []) := by
  intro n
  induction n with
  | zero =>
    intro v3 v4 v5 hD H locs ls I hl
    cases hD
  | succ n ih =>
    intro v3 v4 v5 hD H locs ls I hl
    exact w_X7_withOne_8b g q X σ v1 v2 v3 v4 v5 _ ih hD H locs ls I hl
def D_X7_withOne (σ : St) (p1 : Int32) (p2 : Int32) : Option Int32 := D_X7_withOne_8 σ p1 p2 FU p1 (1 : Int32) (0 : Int32)
set_option maxRecDepth 100000 in
set_option maxHeartbeats 4000000 in
theorem c_X7_withOne (l : Launch) (g : Gh) (q : Nat → Nat) (sz : Nat) (σ : St) (p1 : Int32) (p2 : Int32) {rr : Int32} (hD : D_X7_withOne σ p1 p2 = some rr) : Met l yX7_withOne (wU yX7_withOne cX7_withOne 7 (some .int)) (rmD 1) (PQ g (eM g q) q 22 σ sz [.ref (q 0), .int p1, .int p2]) (QI g (eM g q) q 22 rr σ sz) 0 0 (AQ q 22 sz) := by
  refine met_of (Qc := QI g (eM g q) q 22 rr σ) (by decide) (Nat.le_of_ble_eq_true rfl) ?_
  intro p e s m below meth c ls X I hl
  have hx := X.1
  have hb := X.2.1
  have hl : lv_has ls 7 [(0, .ref (q 0)), (1, .int p1), (2, .int p2)] := hl
  unfold D_X7_withOne at hD
  refine lv_iload_n hx hb dX7_withOne_0 rfl (lv_at hl 1 rfl) ?_
  refine lv_istore_n (lv' := [(3, .int p1), (0, .ref (q 0)), (1, .int p1), (2, .int p2)]) hx hb dX7_withOne_1 rfl hl (by decide) rfl (fun ls hl => ?_)
  refine lv_iconst (v := 1) hx hb dX7_withOne_2 (by decide) ?_
  refine lv_istore (lv' := [(4, .int (1 : Int32)), (3, .int p1), (0, .ref (q 0)), (1, .int p1), (2, .int p2)]) hx hb dX7_withOne_3 hl (by decide) rfl (fun ls hl => ?_)
  refine lv_iconst (v := 0) hx hb dX7_withOne_5 (by decide) ?_
  refine lv_istore (lv' := [(5, .int (0 : Int32)), (4, .int (1 : Int32)), (3, .int p1), (0, .ref (q 0)), (1, .int p1), (2, .int p2)]) hx hb dX7_withOne_6 hl (by decide) rfl (fun ls hl => ?_)
  exact w_X7_withOne_8 g q X σ p1 p2 FU p1 (1 : Int32) (0 : Int32) hD _ _ _ I (lv_sub hl [3, 4, 5, 2, 1, 0] rfl)

/-! YearDeckModel.addTo(I)V -/
def D_X7_addTo_41 (σ : St) (rc2 : St → Int32 → Option St) (v1 : Int32) (v2 : Int32) : Option St := rc2 σ (v2 + (1 : Int32))
set_option maxRecDepth 100000 in
set_option maxHeartbeats 4000000 in
theorem w_X7_addTo_41 {p : Program} {l : Launch} {e : Env} {s : State} {m : MethodId} {args : Array Value} {below : List Frame} {meth : Method} {c : Code} (g : Gh) (q : Nat → Nat) (X : MX p s m args meth c cX7_addTo 4 none RX7) {rr : St} (σ : St)  (v1 : Int32) (v2 : Int32) (rc2 : St → Int32 → Option St) (hrc2 : ∀ (σ' : St) (v2' : Int32), rc2 σ' v2' = some rr → ∀ (H : Heap) (locs : List Loc) (ls : Array Slot), IM g q s σ' H locs → lv_has ls 4 [(0, .ref (q 0)), (1, .int v1), (2, .int v2')] → W p l e (rmD 2) s m args below meth c H locs 0 0 (MQ below (QV g (eM g q) q 22 rr s.heap.size) args s 0 0 (AQ q 22 s.heap.size)) (F0 m 2 ls [])) (hD : D_X7_addTo_41 σ rc2 v1 v2 = some rr) (H : Heap) (locs : List Loc) (ls : Array Slot) (I : IM g q s σ H locs) (hl : lv_has ls 4 [(0, .ref (q 0)), (1, .int v1), (2, .int v2)]) : W p l e (rmD 2) s m args below meth c H locs 0 0 (MQ below (QV g (eM g q) q 22 rr s.heap.size) args s 0 0 (AQ q 22 s.heap.size)) (F0 m 41 ls []) := by
  have hx := X.1
  have hb := X.2.1
  unfold D_X7_addTo_41 at hD
  refine lv_iinc (v := v2 + (1 : Int32)) (lv' := [(2, .int (v2 + (1 : Int32))), (0, .ref (q 0)), (1, .int v1)]) hx hb dX7_addTo_41 hl (k := 2) rfl rfl (by decide) rfl (fun ls hl => ?_)
  refine lv_goto (tgt := 2) hx hb dX7_addTo_44 (by decide) ?_
  exact hrc2 σ (v2 + (1 : Int32)) hD _ _ _ I (lv_sub hl [1, 2, 0] rfl)
def D_X7_addTo_29 (σ : St) (rc2 : St → Int32 → Option St) (v1 : Int32) (v2 : Int32) (t0 : Int32) : Option St := if t0 < 0 then D_X7_addTo_41 σ rc2 v1 v2 else gd (inb t0 1024) (D_X7_addTo_41 (up2 σ 14 t0.toNatClampNeg (vp_nar .boolean (1 : Int32))) rc2 v1 v2)
set_option maxRecDepth 100000 in
set_option maxHeartbeats 4000000 in
theorem w_X7_addTo_29 {p : Program} {l : Launch} {e : Env} {s : State} {m : MethodId} {args : Array Value} {below : List Frame} {meth : Method} {c : Code} (g : Gh) (q : Nat → Nat) (X : MX p s m args meth c cX7_addTo 4 none RX7) {rr : St} (σ : St)  (v1 : Int32) (v2 : Int32) (t0 : Int32) (rc2 : St → Int32 → Option St) (hrc2 : ∀ (σ' : St) (v2' : Int32), rc2 σ' v2' = some rr → ∀ (H : Heap) (locs : List Loc) (ls : Array Slot), IM g q s σ' H locs → lv_has ls 4 [(0, .ref (q 0)), (1, .int v1), (2, .int v2')] → W p l e (rmD 2) s m args below meth c H locs 0 0 (MQ below (QV g (eM g q) q 22 rr s.heap.size) args s 0 0 (AQ q 22 s.heap.size)) (F0 m 2 ls [])) (hD : D_X7_addTo_29 σ rc2 v1 v2 t0 = some rr) (H : Heap) (locs : List Loc) (ls : Array Slot) (I : IM g q s σ H locs) (hl : lv_has ls 4 [(0, .ref (q 0)), (1, .int v1), (2, .int v2)]) : W p l e (rmD 2) s m args below meth c H locs 0 0 (MQ below (QV g (eM g q) q 22 rr s.heap.size) args s 0 0 (AQ q 22 s.heap.size)) (F0 m 29 ls [.int t0]) := by
  have hx := X.1
  have hb := X.2.1
  unfold D_X7_addTo_29 at hD
  refine lv_istore_n (lv' := [(3, .int t0), (0, .ref (q 0)), (1, .int v1), (2, .int v2)]) hx hb dX7_addTo_29 rfl hl (by decide) rfl (fun ls hl => ?_)
  refine lv_iload_n hx hb dX7_addTo_30 rfl (lv_at hl 0 rfl) ?_
  refine lv_if_lt (tgt := 41) hx hb dX7_addTo_31 (by decide) (fun hc20 => ?_) (fun hc20 => ?_)
  · have hD := ite_p hc20 hD
    exact w_X7_addTo_41 g q X σ v1 v2 rc2 hrc2 hD _ _ _ I (lv_sub hl [1, 2, 3] rfl)
  · have hD := ite_n hc20 hD
    refine lv_aload_n hx hb dX7_addTo_34 rfl (lv_at hl 1 rfl) ?_
    refine g_Model_canThen X I fl_X7_50 dX7_addTo_35 ?_
    refine lv_iload_n hx hb dX7_addTo_38 rfl (lv_at hl 0 rfl) ?_
    refine lv_iconst (v := 1) hx hb dX7_addTo_39 (by decide) ?_
    obtain ⟨hg25, hD⟩ := gd_s hD
    refine r_zast (eM_loc g q) X I (by decide) (eMa_14 g q) hg25 dX7_addTo_40 (fun H locs I => ?_)
    exact w_X7_addTo_41 g q X (up2 σ 14 t0.toNatClampNeg (vp_nar .boolean (1 : Int32))) v1 v2 rc2 hrc2 hD _ _ _ I (lv_sub hl [1, 2, 3] rfl)
def D_X7_addTo_2b (σ : St) (rc2 : St → Int32 → Option St) (v1 : Int32) (v2 : Int32) : Option St := if (1024 : Int32) ≤ v2 then some σ else gd (inb v2 1024) (if (σ 13 v2.toNatClampNeg) = 0 then D_X7_addTo_29 σ rc2 v1 v2 (-9 : Int32) else (D_X7_withOne σ v2 v1).bind fun y16 => D_X7_addTo_29 σ rc2 v1 v2 y16)
set_option maxRecDepth 100000 in
set_option maxHeartbeats 4000000 in
theorem w_X7_addTo_2b {p : Program} {l : Launch} {e : Env} {s : State} {m : MethodId} {args : Array Value} {below : List Frame} {meth : Method} {c : Code} (g : Gh) (q : Nat → Nat) (X : MX p s m args meth c cX7_addTo 4 none RX7) {rr : St} (σ : St)  (v1 : Int32) (v2 : Int32) (rc2 : St → Int32 → Option St) (hrc2 : ∀ (σ' : St) (v2' : Int32), rc2 σ' v2' = some rr → ∀ (H : Heap) (locs : List Loc) (ls : Array Slot), IM g q s σ' H locs → lv_has ls 4 [(0, .ref (q 0)), (1, .int v1), (2, .int v2')] → W p l e (rmD 2) s m args below meth c H locs 0 0 (MQ below (QV g (eM g q) q 22 rr s.heap.size) args s 0 0 (AQ q 22 s.heap.size)) (F0 m 2 ls [])) (hD : D_X7_addTo_2b σ rc2 v1 v2 = some rr) (H : Heap) (locs : List Loc) (ls : Array Slot) (I : IM g q s σ H locs) (hl : lv_has ls 4 [(0, .ref (q 0)), (1, .int v1), (2, .int v2)]) : W p l e (rmD 2) s m args below meth c H locs 0 0 (MQ below (QV g (eM g q) q 22 rr s.heap.size) args s 0 0 (AQ q 22 s.heap.size)) (F0 m 2 ls []) := by
  have hx := X.1
  have hb := X.2.1
  unfold D_X7_addTo_2b at hD
  refine lv_iload_n hx hb dX7_addTo_2 rfl (lv_at hl 2 rfl) ?_
  refine lv_sipush (v := 1024) hx hb dX7_addTo_3 (by decide) ?_
  refine lv_icmp_ge (tgt := 47) hx hb dX7_addTo_6 (by decide) (fun hc5 => ?_) (fun hc5 => ?_)
  · have hD := ite_p hc5 hD
    exact r_vret X I hD dX7_addTo_47
  · have hD := ite_n hc5 hD
    refine lv_aload_n hx hb dX7_addTo_9 rfl (lv_at hl 0 rfl) ?_
    refine g_Model_canBe X I fl_X7_46 dX7_addTo_10 ?_
    refine lv_iload_n hx hb dX7_addTo_13 rfl (lv_at hl 2 rfl) ?_
    obtain ⟨hg10, hD⟩ := gd_s hD
    refine r_zald X I (by decide) ((eMa_13 g q) _) hg10 dX7_addTo_14 ?_
    refine lv_if_eq (tgt := 27) hx hb dX7_addTo_15 (by decide) (fun hc11 => ?_) (fun hc11 => ?_)
    · have hD := ite_p hc11 hD
      refine lv_bipush (v := -9) hx hb dX7_addTo_27 (by decide) ?_
      exact w_X7_addTo_29 g q X σ v1 v2 (-9 : Int32) rc2 hrc2 hD _ _ _ I (lv_sub hl [0, 1, 2] rfl)
    · have hD := ite_n hc11 hD
      refine lv_aload_n hx hb dX7_addTo_18 rfl (lv_at hl 0 rfl) ?_
      refine lv_iload_n hx hb dX7_addTo_19 rfl (lv_at hl 2 rfl) ?_
      refine lv_iload_n hx hb dX7_addTo_20 rfl (lv_at hl 1 rfl) ?_
      obtain ⟨y16, hy16, hD⟩ := bd_s hD
      refine r_calli (r_runV (As := [.int v2, .int v1]) (rest := []) X I (c_X7_withOne l g q _ σ v2 v1 hy16) kv_X7_withOne ml_X7_215 rfl (by decide) (eM_Model g q _) ⟨Nat.le_of_ble_eq_true rfl, Nat.le_of_ble_eq_true rfl⟩ ⟨Nat.zero_le _, Nat.zero_le _⟩ rfl rfl hl.1 (Nat.le_of_ble_eq_true rfl) dX7_addTo_21) I (fun H locs I => ?_)
      refine lv_goto (tgt := 29) hx hb dX7_addTo_24 (by decide) ?_
      exact w_X7_addTo_29 g q X σ v1 v2 y16 rc2 hrc2 hD _ _ _ I (lv_sub hl [0, 1, 2] rfl)
def D_X7_addTo_2  (v1 : Int32) : Nat → St → Int32 → Option St
  | 0 => fun _ _ => none
  | n + 1 => fun σ v2 => D_X7_addTo_2b σ (D_X7_addTo_2 v1 n) v1 v2
set_option maxRecDepth 100000 in
set_option maxHeartbeats 4000000 in
theorem w_X7_addTo_2 {p : Program} {l : Launch} {e : Env} {s : State} {m : MethodId} {args : Array Value} {below : List Frame} {meth : Method} {c : Code} (g : Gh) (q : Nat → Nat) (X : MX p s m args meth c cX7_addTo 4 none RX7) {rr : St}  (v1 : Int32) : ∀ (n : Nat) (σ : St) (v2 : Int32), D_X7_addTo_2 v1 n σ v2 = some rr → ∀ (H : Heap) (locs : List Loc) (ls : Array Slot), IM g q s σ H locs → lv_has ls 4 [(0, .ref (q 0)), (1, .int v1), (2, .int v2)] → W p l e (rmD 2) s m args below meth c H locs 0 0 (MQ below (QV g (eM g q) q 22 rr s.heap.size) args s 0 0 (AQ q 22 s.heap.size)) (F0 m 2 ls []) := by
  intro n
  induction n with
  | zero =>
    intro σ v2 hD H locs ls I hl
    cases hD
  | succ n ih =>
    intro σ v2 hD H locs ls I hl
    exact w_X7_addTo_2b g q X σ v1 v2 _ ih hD H locs ls I hl
def D_X7_addTo (σ : St) (p1 : Int32) : Option St := D_X7_addTo_2 p1 FU σ (0 : Int32)
set_option maxRecDepth 100000 in
set_option maxHeartbeats 4000000 in
theorem c_X7_addTo (l : Launch) (g : Gh) (q : Nat → Nat) (sz : Nat) (σ : St) (p1 : Int32) {rr : St} (hD : D_X7_addTo σ p1 = some rr) : Met l yX7_addTo (wU yX7_addTo cX7_addTo 4 none) (rmD 2) (PQ g (eM g q) q 22 σ sz [.ref (q 0), .int p1]) (QV g (eM g q) q 22 rr sz) 0 0 (AQ q 22 sz) := by
  refine met_of (Qc := QV g (eM g q) q 22 rr) (by decide) (Nat.le_of_ble_eq_true rfl) ?_
  intro p e s m below meth c ls X I hl
  have hx := X.1
  have hb := X.2.1
  have hl : lv_has ls 4 [(0, .ref (q 0)), (1, .int p1)] := hl
  unfold D_X7_addTo at hD
  refine lv_iconst (v := 0) hx hb dX7_addTo_0 (by decide) ?_
  refine lv_istore_n (lv' := [(2, .int (0 : Int32)), (0, .ref (q 0)), (1, .int p1)]) hx hb dX7_addTo_1 rfl hl (by decide) rfl (fun ls hl => ?_)
  exact w_X7_addTo_2 g q X p1 FU σ (0 : Int32) hD _ _ _ I (lv_sub hl [1, 2, 0] rfl)

/-! YearDeckModel.goOn(I)V -/
def D_X7_goOn_67b (σ : St) (rc67 : St → Int32 → Option St) (v2 : Int32) : Option St := if (1024 : Int32) ≤ v2 then some σ else gd (inb v2 1024) (gd (inb v2 1024) (rc67 (up2 σ 13 v2.toNatClampNeg (vp_nar .boolean (σ 14 v2.toNatClampNeg))) (v2 + (1 : Int32))))
set_option maxRecDepth 100000 in
set_option maxHeartbeats 4000000 in
theorem w_X7_goOn_67b {p : Program} {l : Launch} {e : Env} {s : State} {m : MethodId} {args : Array Value} {below : List Frame} {meth : Method} {c : Code} (g : Gh) (q : Nat → Nat) (X : MX p s m args meth c cX7_goOn 3 none RX7) {rr : St} (σ : St)  (v2 : Int32) (rc67 : St → Int32 → Option St) (hrc67 : ∀ (σ' : St) (v2' : Int32), rc67 σ' v2' = some rr → ∀ (H : Heap) (locs : List Loc) (ls : Array Slot), IM g q s σ' H locs → lv_has ls 3 [(0, .ref (q 0)), (2, .int v2')] → W p l e (rmD 3) s m args below meth c H locs 0 0 (MQ below (QV g (eM g q) q 22 rr s.heap.size) args s 0 0 (AQ q 22 s.heap.size)) (F0 m 67 ls [])) (hD : D_X7_goOn_67b σ rc67 v2 = some rr) (H : Heap) (locs : List Loc) (ls : Array Slot) (I : IM g q s σ H locs) (hl : lv_has ls 3 [(0, .ref (q 0)), (2, .int v2)]) : W p l e (rmD 3) s m args below meth c H locs 0 0 (MQ below (QV g (eM g q) q 22 rr s.heap.size) args s 0 0 (AQ q 22 s.heap.size)) (F0 m 67 ls []) := by
  have hx := X.1
  have hb := X.2.1
  unfold D_X7_goOn_67b at hD
  refine lv_iload_n hx hb dX7_goOn_67 rfl (lv_at hl 1 rfl) ?_
  refine lv_sipush (v := 1024) hx hb dX7_goOn_68 (by decide) ?_
  refine lv_icmp_ge (tgt := 92) hx hb dX7_goOn_71 (by decide) (fun hc41 => ?_) (fun hc41 => ?_)
  · have hD := ite_p hc41 hD
    exact r_vret X I hD dX7_goOn_92
  · have hD := ite_n hc41 hD
    refine lv_aload_n hx hb dX7_goOn_74 rfl (lv_at hl 0 rfl) ?_
    refine g_Model_canBe X I fl_X7_46 dX7_goOn_75 ?_
    refine lv_iload_n hx hb dX7_goOn_78 rfl (lv_at hl 1 rfl) ?_
    refine lv_aload_n hx hb dX7_goOn_79 rfl (lv_at hl 0 rfl) ?_
    refine g_Model_canThen X I fl_X7_50 dX7_goOn_80 ?_
    refine lv_iload_n hx hb dX7_goOn_83 rfl (lv_at hl 1 rfl) ?_
    obtain ⟨hg49, hD⟩ := gd_s hD
    refine r_zald X I (by decide) ((eMa_14 g q) _) hg49 dX7_goOn_84 ?_
    obtain ⟨hg50, hD⟩ := gd_s hD
    refine r_zast (eM_loc g q) X I (by decide) (eMa_13 g q) hg50 dX7_goOn_85 (fun H locs I => ?_)
    refine lv_iinc (v := v2 + (1 : Int32)) (lv' := [(2, .int (v2 + (1 : Int32))), (0, .ref (q 0))]) hx hb dX7_goOn_86 hl (k := 1) rfl rfl (by decide) rfl (fun ls hl => ?_)
    refine lv_goto (tgt := 67) hx hb dX7_goOn_89 (by decide) ?_
    exact hrc67 (up2 σ 13 v2.toNatClampNeg (vp_nar .boolean (σ 14 v2.toNatClampNeg))) (v2 + (1 : Int32)) hD _ _ _ I (lv_sub hl [1, 0] rfl)
def D_X7_goOn_67  : Nat → St → Int32 → Option St
  | 0 => fun _ _ => none
  | n + 1 => fun σ v2 => D_X7_goOn_67b σ (D_X7_goOn_67 n) v2
set_option maxRecDepth 100000 in
set_option maxHeartbeats 4000000 in
theorem w_X7_goOn_67 {p : Program} {l : Launch} {e : Env} {s : State} {m : MethodId} {args : Array Value} {below : List Frame} {meth : Method} {c : Code} (g : Gh) (q : Nat → Nat) (X : MX p s m args meth c cX7_goOn 3 none RX7) {rr : St}  : ∀ (n : Nat) (σ : St) (v2 : Int32), D_X7_goOn_67 n σ v2 = some rr → ∀ (H : Heap) (locs : List Loc) (ls : Array Slot), IM g q s σ H locs → lv_has ls 3 [(0, .ref (q 0)), (2, .int v2)] → W p l e (rmD 3) s m args below meth c H locs 0 0 (MQ below (QV g (eM g q) q 22 rr s.heap.size) args s 0 0 (AQ q 22 s.heap.size)) (F0 m 67 ls []) := by
  intro n
  induction n with
  | zero =>
    intro σ v2 hD H locs ls I hl
    cases hD
  | succ n ih =>
    intro σ v2 hD H locs ls I hl
    exact w_X7_goOn_67b g q X σ v2 _ ih hD H locs ls I hl
def D_X7_goOn_65 (σ : St) : Option St := D_X7_goOn_67 FU σ (0 : Int32)
set_option maxRecDepth 100000 in
set_option maxHeartbeats 4000000 in
theorem w_X7_goOn_65 {p : Program} {l : Launch} {e : Env} {s : State} {m : MethodId} {args : Array Value} {below : List Frame} {meth : Method} {c : Code} (g : Gh) (q : Nat → Nat) (X : MX p s m args meth c cX7_goOn 3 none RX7) {rr : St} (σ : St)  (hD : D_X7_goOn_65 σ = some rr) (H : Heap) (locs : List Loc) (ls : Array Slot) (I : IM g q s σ H locs) (hl : lv_has ls 3 [(0, .ref (q 0))]) : W p l e (rmD 3) s m args below meth c H locs 0 0 (MQ below (QV g (eM g q) q 22 rr s.heap.size) args s 0 0 (AQ q 22 s.heap.size)) (F0 m 65 ls []) := by
  have hx := X.1
  have hb := X.2.1
  unfold D_X7_goOn_65 at hD
  refine lv_iconst (v := 0) hx hb dX7_goOn_65 (by decide) ?_
  refine lv_istore_n (lv' := [(2, .int (0 : Int32)), (0, .ref (q 0))]) hx hb dX7_goOn_66 rfl hl (by decide) rfl (fun ls hl => ?_)
  exact w_X7_goOn_67 g q X FU σ (0 : Int32) hD _ _ _ I (lv_sub hl [1, 0] rfl)
def D_X7_goOn_59 (σ : St) (rc24 : St → Int32 → Option St) (v1 : Int32) (v2 : Int32) : Option St := rc24 σ (v2 + (1 : Int32))
set_option maxRecDepth 100000 in
set_option maxHeartbeats 4000000 in
theorem w_X7_goOn_59 {p : Program} {l : Launch} {e : Env} {s : State} {m : MethodId} {args : Array Value} {below : List Frame} {meth : Method} {c : Code} (g : Gh) (q : Nat → Nat) (X : MX p s m args meth c cX7_goOn 3 none RX7) {rr : St} (σ : St)  (v1 : Int32) (v2 : Int32) (rc24 : St → Int32 → Option St) (hrc24 : ∀ (σ' : St) (v2' : Int32), rc24 σ' v2' = some rr → ∀ (H : Heap) (locs : List Loc) (ls : Array Slot), IM g q s σ' H locs → lv_has ls 3 [(0, .ref (q 0)), (1, .int v1), (2, .int v2')] → W p l e (rmD 3) s m args below meth c H locs 0 0 (MQ below (QV g (eM g q) q 22 rr s.heap.size) args s 0 0 (AQ q 22 s.heap.size)) (F0 m 24 ls [])) (hD : D_X7_goOn_59 σ rc24 v1 v2 = some rr) (H : Heap) (locs : List Loc) (ls : Array Slot) (I : IM g q s σ H locs) (hl : lv_has ls 3 [(0, .ref (q 0)), (1, .int v1), (2, .int v2)]) : W p l e (rmD 3) s m args below meth c H locs 0 0 (MQ below (QV g (eM g q) q 22 rr s.heap.size) args s 0 0 (AQ q 22 s.heap.size)) (F0 m 59 ls []) := by
  have hx := X.1
  have hb := X.2.1
  unfold D_X7_goOn_59 at hD
  refine lv_iinc (v := v2 + (1 : Int32)) (lv' := [(2, .int (v2 + (1 : Int32))), (0, .ref (q 0)), (1, .int v1)]) hx hb dX7_goOn_59 hl (k := 2) rfl rfl (by decide) rfl (fun ls hl => ?_)
  refine lv_goto (tgt := 24) hx hb dX7_goOn_62 (by decide) ?_
  exact hrc24 σ (v2 + (1 : Int32)) hD _ _ _ I (lv_sub hl [1, 2, 0] rfl)
def D_X7_goOn_24b (σ : St) (rc24 : St → Int32 → Option St) (v1 : Int32) (v2 : Int32) : Option St := if (32 : Int32) ≤ v2 then D_X7_goOn_65 σ else (D_X7_noSetOf σ v1 v2).bind fun y21 => if y21 = 0 then (D_X7_ageBy σ v1 v2).bind fun y26 => gd (inb v1 4) (if y26 = (σ 6 v1.toNatClampNeg) then (D_X7_addTo σ v2).bind fun y34 => D_X7_goOn_59 y34 rc24 v1 v2 else D_X7_goOn_59 σ rc24 v1 v2) else D_X7_goOn_59 σ rc24 v1 v2
set_option maxRecDepth 100000 in
set_option maxHeartbeats 4000000 in
theorem w_X7_goOn_24b {p : Program} {l : Launch} {e : Env} {s : State} {m : MethodId} {args : Array Value} {below : List Frame} {meth : Method} {c : Code} (g : Gh) (q : Nat → Nat) (X : MX p s m args meth c cX7_goOn 3 none RX7) {rr : St} (σ : St)  (v1 : Int32) (v2 : Int32) (rc24 : St → Int32 → Option St) (hrc24 : ∀ (σ' : St) (v2' : Int32), rc24 σ' v2' = some rr → ∀ (H : Heap) (locs : List Loc) (ls : Array Slot), IM g q s σ' H locs → lv_has ls 3 [(0, .ref (q 0)), (1, .int v1), (2, .int v2')] → W p l e (rmD 3) s m args below meth c H locs 0 0 (MQ below (QV g (eM g q) q 22 rr s.heap.size) args s 0 0 (AQ q 22 s.heap.size)) (F0 m 24 ls [])) (hD : D_X7_goOn_24b σ rc24 v1 v2 = some rr) (H : Heap) (locs : List Loc) (ls : Array Slot) (I : IM g q s σ H locs) (hl : lv_has ls 3 [(0, .ref (q 0)), (1, .int v1), (2, .int v2)]) : W p l e (rmD 3) s m args below meth c H locs 0 0 (MQ below (QV g (eM g q) q 22 rr s.heap.size) args s 0 0 (AQ q 22 s.heap.size)) (F0 m 24 ls []) := by
  have hx := X.1
  have hb := X.2.1
  unfold D_X7_goOn_24b at hD
  refine lv_iload_n hx hb dX7_goOn_24 rfl (lv_at hl 2 rfl) ?_
  refine lv_bipush (v := 32) hx hb dX7_goOn_25 (by decide) ?_
  refine lv_icmp_ge (tgt := 65) hx hb dX7_goOn_27 (by decide) (fun hc17 => ?_) (fun hc17 => ?_)
  · have hD := ite_p hc17 hD
    exact w_X7_goOn_65 g q X σ hD _ _ _ I (lv_sub hl [0] rfl)
  · have hD := ite_n hc17 hD
    refine lv_aload_n hx hb dX7_goOn_30 rfl (lv_at hl 0 rfl) ?_
    refine lv_iload_n hx hb dX7_goOn_31 rfl (lv_at hl 1 rfl) ?_
    refine lv_iload_n hx hb dX7_goOn_32 rfl (lv_at hl 2 rfl) ?_
    obtain ⟨y21, hy21, hD⟩ := bd_s hD
    refine r_calli (r_runV (As := [.int v1, .int v2]) (rest := []) X I (c_X7_noSetOf l g q _ σ v1 v2 hy21) kv_X7_noSetOf ml_X7_174 rfl (by decide) (eM_Model g q _) ⟨Nat.le_of_ble_eq_true rfl, Nat.le_of_ble_eq_true rfl⟩ ⟨Nat.zero_le _, Nat.zero_le _⟩ rfl rfl hl.1 (Nat.le_of_ble_eq_true rfl) dX7_goOn_33) I (fun H locs I => ?_)
    refine lv_if_ne (tgt := 59) hx hb dX7_goOn_36 (by decide) (fun hc22 => ?_) (fun hc22 => ?_)
    · have hD := ite_n hc22 hD
      exact w_X7_goOn_59 g q X σ v1 v2 rc24 hrc24 hD _ _ _ I (lv_sub hl [0, 1, 2] rfl)
    · have hD := ite_p hc22 hD
      refine lv_aload_n hx hb dX7_goOn_39 rfl (lv_at hl 0 rfl) ?_
      refine lv_iload_n hx hb dX7_goOn_40 rfl (lv_at hl 1 rfl) ?_
      refine lv_iload_n hx hb dX7_goOn_41 rfl (lv_at hl 2 rfl) ?_
      obtain ⟨y26, hy26, hD⟩ := bd_s hD
      refine r_calli (r_runV (As := [.int v1, .int v2]) (rest := []) X I (c_X7_ageBy l g q _ σ v1 v2 hy26) kv_X7_ageBy ml_X7_177 rfl (by decide) (eM_Model g q _) ⟨Nat.le_of_ble_eq_true rfl, Nat.le_of_ble_eq_true rfl⟩ ⟨Nat.zero_le _, Nat.zero_le _⟩ rfl rfl hl.1 (Nat.le_of_ble_eq_true rfl) dX7_goOn_42) I (fun H locs I => ?_)
      refine lv_aload_n hx hb dX7_goOn_45 rfl (lv_at hl 0 rfl) ?_
      refine g_Model_wantOf X I fl_X7_25 dX7_goOn_46 ?_
      refine lv_iload_n hx hb dX7_goOn_49 rfl (lv_at hl 1 rfl) ?_
      obtain ⟨hg30, hD⟩ := gd_s hD
      refine r_iald X I (by decide) ((eMa_6 g q) _) hg30 dX7_goOn_50 ?_
      refine lv_icmp_ne (tgt := 59) hx hb dX7_goOn_51 (by decide) (fun hc31 => ?_) (fun hc31 => ?_)
      · have hD := ite_n hc31 hD
        exact w_X7_goOn_59 g q X σ v1 v2 rc24 hrc24 hD _ _ _ I (lv_sub hl [0, 1, 2] rfl)
      · have hD := ite_p hc31 hD
        refine lv_aload_n hx hb dX7_goOn_54 rfl (lv_at hl 0 rfl) ?_
        refine lv_iload_n hx hb dX7_goOn_55 rfl (lv_at hl 2 rfl) ?_
        obtain ⟨y34, hy34, hD⟩ := bd_s hD
        refine r_callv (r_runV (As := [.int v2]) (rest := []) X I (c_X7_addTo l g q _ σ v2 hy34) kv_X7_addTo ml_X7_211 rfl (by decide) (eM_Model g q _) ⟨Nat.le_of_ble_eq_true rfl, Nat.le_of_ble_eq_true rfl⟩ ⟨Nat.zero_le _, Nat.zero_le _⟩ rfl rfl hl.1 (Nat.le_of_ble_eq_true rfl) dX7_goOn_56) I (fun H locs I => ?_)
        exact w_X7_goOn_59 g q X y34 v1 v2 rc24 hrc24 hD _ _ _ I (lv_sub hl [0, 1, 2] rfl)
def D_X7_goOn_24  (v1 : Int32) : Nat → St → Int32 → Option St
  | 0 => fun _ _ => none
  | n + 1 => fun σ v2 => D_X7_goOn_24b σ (D_X7_goOn_24 v1 n) v1 v2
set_option maxRecDepth 100000 in
set_option maxHeartbeats 4000000 in
theorem w_X7_goOn_24 {p : Program} {l : Launch} {e : Env} {s : State} {m : MethodId} {args : Array Value} {below : List Frame} {meth : Method} {c : Code} (g : Gh) (q : Nat → Nat) (X : MX p s m args meth c cX7_goOn 3 none RX7) {rr : St}  (v1 : Int32) : ∀ (n : Nat) (σ : St) (v2 : Int32), D_X7_goOn_24 v1 n σ v2 = some rr → ∀ (H : Heap) (locs : List Loc) (ls : Array Slot), IM g q s σ H locs → lv_has ls 3 [(0, .ref (q 0)), (1, .int v1), (2, .int v2)] → W p l e (rmD 3) s m args below meth c H locs 0 0 (MQ below (QV g (eM g q) q 22 rr s.heap.size) args s 0 0 (AQ q 22 s.heap.size)) (F0 m 24 ls []) := by
  intro n
  induction n with
  | zero =>
    intro σ v2 hD H locs ls I hl
    cases hD
  | succ n ih =>
    intro σ v2 hD H locs ls I hl
    exact w_X7_goOn_24b g q X σ v1 v2 _ ih hD H locs ls I hl
def D_X7_goOn_22 (σ : St) (v1 : Int32) : Option St := D_X7_goOn_24 v1 FU σ (0 : Int32)
set_option maxRecDepth 100000 in
set_option maxHeartbeats 4000000 in
theorem w_X7_goOn_22 {p : Program} {l : Launch} {e : Env} {s : State} {m : MethodId} {args : Array Value} {below : List Frame} {meth : Method} {c : Code} (g : Gh) (q : Nat → Nat) (X : MX p s m args meth c cX7_goOn 3 none RX7) {rr : St} (σ : St)  (v1 : Int32) (hD : D_X7_goOn_22 σ v1 = some rr) (H : Heap) (locs : List Loc) (ls : Array Slot) (I : IM g q s σ H locs) (hl : lv_has ls 3 [(0, .ref (q 0)), (1, .int v1)]) : W p l e (rmD 3) s m args below meth c H locs 0 0 (MQ below (QV g (eM g q) q 22 rr s.heap.size) args s 0 0 (AQ q 22 s.heap.size)) (F0 m 22 ls []) := by
  have hx := X.1
  have hb := X.2.1
  unfold D_X7_goOn_22 at hD
  refine lv_iconst (v := 0) hx hb dX7_goOn_22 (by decide) ?_
  refine lv_istore_n (lv' := [(2, .int (0 : Int32)), (0, .ref (q 0)), (1, .int v1)]) hx hb dX7_goOn_23 rfl hl (by decide) rfl (fun ls hl => ?_)
  exact w_X7_goOn_24 g q X v1 FU σ (0 : Int32) hD _ _ _ I (lv_sub hl [1, 2, 0] rfl)
def D_X7_goOn_2b (σ : St) (rc2 : St → Int32 → Option St) (v1 : Int32) (v2 : Int32) : Option St := if (1024 : Int32) ≤ v2 then D_X7_goOn_22 σ v1 else gd (inb v2 1024) (rc2 (up2 σ 14 v2.toNatClampNeg (vp_nar .boolean (0 : Int32))) (v2 + (1 : Int32)))
set_option maxRecDepth 100000 in
set_option maxHeartbeats 4000000 in
theorem w_X7_goOn_2b {p : Program} {l : Launch} {e : Env} {s : State} {m : MethodId} {args : Array Value} {below : List Frame} {meth : Method} {c : Code} (g : Gh) (q : Nat → Nat) (X : MX p s m args meth c cX7_goOn 3 none RX7) {rr : St} (σ : St)  (v1 : Int32) (v2 : Int32) (rc2 : St → Int32 → Option St) (hrc2 : ∀ (σ' : St) (v2' : Int32), rc2 σ' v2' = some rr → ∀ (H : Heap) (locs : List Loc) (ls : Array Slot), IM g q s σ' H locs → lv_has ls 3 [(0, .ref (q 0)), (1, .int v1), (2, .int v2')] → W p l e (rmD 3) s m args below meth c H locs 0 0 (MQ below (QV g (eM g q) q 22 rr s.heap.size) args s 0 0 (AQ q 22 s.heap.size)) (F0 m 2 ls [])) (hD : D_X7_goOn_2b σ rc2 v1 v2 = some rr) (H : Heap) (locs : List Loc) (ls : Array Slot) (I : IM g q s σ H locs) (hl : lv_has ls 3 [(0, .ref (q 0)), (1, .int v1), (2, .int v2)]) : W p l e (rmD 3) s m args below meth c H locs 0 0 (MQ below (QV g (eM g q) q 22 rr s.heap.size) args s 0 0 (AQ q 22 s.heap.size)) (F0 m 2 ls []) := by
  have hx := X.1
  have hb := X.2.1
  unfold D_X7_goOn_2b at hD
  refine lv_iload_n hx hb dX7_goOn_2 rfl (lv_at hl 2 rfl) ?_
  refine lv_sipush (v := 1024) hx hb dX7_goOn_3 (by decide) ?_
  refine lv_icmp_ge (tgt := 22) hx hb dX7_goOn_6 (by decide) (fun hc5 => ?_) (fun hc5 => ?_)
  · have hD := ite_p hc5 hD
    exact w_X7_goOn_22 g q X σ v1 hD _ _ _ I (lv_sub hl [0, 1] rfl)
  · have hD := ite_n hc5 hD
    refine lv_aload_n hx hb dX7_goOn_9 rfl (lv_at hl 0 rfl) ?_
    refine g_Model_canThen X I fl_X7_50 dX7_goOn_10 ?_
    refine lv_iload_n hx hb dX7_goOn_13 rfl (lv_at hl 2 rfl) ?_
    refine lv_iconst (v := 0) hx hb dX7_goOn_14 (by decide) ?_
    obtain ⟨hg10, hD⟩ := gd_s hD
    refine r_zast (eM_loc g q) X I (by decide) (eMa_14 g q) hg10 dX7_goOn_15 (fun H locs I => ?_)
    refine lv_iinc (v := v2 + (1 : Int32)) (lv' := [(2, .int (v2 + (1 : Int32))), (0, .ref (q 0)), (1, .int v1)]) hx hb dX7_goOn_16 hl (k := 2) rfl rfl (by decide) rfl (fun ls hl => ?_)
    refine lv_goto (tgt := 2) hx hb dX7_goOn_19 (by decide) ?_
    exact hrc2 (up2 σ 14 v2.toNatClampNeg (vp_nar .boolean (0 : Int32))) (v2 + (1 : Int32)) hD _ _ _ I (lv_sub hl [1, 2, 0] rfl)
def D_X7_goOn_2  (v1 : Int32) : Nat → St → Int32 → Option St
  | 0 => fun _ _ => none
  | n + 1 => fun σ v2 => D_X7_goOn_2b σ (D_X7_goOn_2 v1 n) v1 v2
set_option maxRecDepth 100000 in
set_option maxHeartbeats 4000000 in
theorem w_X7_goOn_2 {p : Program} {l : Launch} {e : Env} {s : State} {m : MethodId} {args : Array Value} {below : List Frame} {meth : Method} {c : Code} (g : Gh) (q : Nat → Nat) (X : MX p s m args meth c cX7_goOn 3 none RX7) {rr : St}  (v1 : Int32) : ∀ (n : Nat) (σ : St) (v2 : Int32), D_X7_goOn_2 v1 n σ v2 = some rr → ∀ (H : Heap) (locs : List Loc) (ls : Array Slot), IM g q s σ H locs → lv_has ls 3 [(0, .ref (q 0)), (1, .int v1), (2, .int v2)] → W p l e (rmD 3) s m args below meth c H locs 0 0 (MQ below (QV g (eM g q) q 22 rr s.heap.size) args s 0 0 (AQ q 22 s.heap.size)) (F0 m 2 ls []) := by
  intro n
  induction n with
  | zero =>
    intro σ v2 hD H locs ls I hl
    cases hD
  | succ n ih =>
    intro σ v2 hD H locs ls I hl
    exact w_X7_goOn_2b g q X σ v1 v2 _ ih hD H locs ls I hl
def D_X7_goOn (σ : St) (p1 : Int32) : Option St := D_X7_goOn_2 p1 FU σ (0 : Int32)
set_option maxRecDepth 100000 in
set_option maxHeartbeats 4000000 in
theorem c_X7_goOn (l : Launch) (g : Gh) (q : Nat → Nat) (sz : Nat) (σ : St) (p1 : Int32) {rr : St} (hD : D_X7_goOn σ p1 = some rr) : Met l yX7_goOn (wU yX7_goOn cX7_goOn 3 none) (rmD 3) (PQ g (eM g q) q 22 σ sz [.ref (q 0), .int p1]) (QV g (eM g q) q 22 rr sz) 0 0 (AQ q 22 sz) := by
  refine met_of (Qc := QV g (eM g q) q 22 rr) (by decide) (Nat.le_of_ble_eq_true rfl) ?_
  intro p e s m below meth c ls X I hl
  have hx := X.1
  have hb := X.2.1
  have hl : lv_has ls 3 [(0, .ref (q 0)), (1, .int p1)] := hl
  unfold D_X7_goOn at hD
  refine lv_iconst (v := 0) hx hb dX7_goOn_0 (by decide) ?_
  refine lv_istore_n (lv' := [(2, .int (0 : Int32)), (0, .ref (q 0)), (1, .int p1)]) hx hb dX7_goOn_1 rfl hl (by decide) rfl (fun ls hl => ?_)
  exact w_X7_goOn_2 g q X p1 FU σ (0 : Int32) hD _ _ _ I (lv_sub hl [1, 2, 0] rfl)
