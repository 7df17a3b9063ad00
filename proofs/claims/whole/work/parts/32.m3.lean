/-! YearDeckModel.canAllBeRight(I)Z -/
def D_X7_canAllBeRight_88 (σ : St) (rc63 : Int32 → Int32 → Option (Int32 × St)) (v3 : Int32) (t0 : Int32) : Option (Int32 × St) := rc63 t0 (v3 + (1 : Int32))
set_option maxRecDepth 100000 in
set_option maxHeartbeats 4000000 in
theorem w_X7_canAllBeRight_88 {p : Program} {l : Launch} {e : Env} {s : State} {m : MethodId} {args : Array Value} {below : List Frame} {meth : Method} {c : Code} (g : Gh) (q : Nat → Nat) (X : MX p s m args meth c cX7_canAllBeRight 4 (some .boolean) RX7) {rr : (Int32 × St)} (σ : St)  (v3 : Int32) (t0 : Int32) (rc63 : Int32 → Int32 → Option (Int32 × St)) (hrc63 : ∀ (v2' : Int32) (v3' : Int32), rc63 v2' v3' = some rr → ∀ (H : Heap) (locs : List Loc) (ls : Array Slot), IM g q s σ H locs → lv_has ls 4 [(0, .ref (q 0)), (2, .int v2'), (3, .int v3')] → W p l e (rmD 4) s m args below meth c H locs 0 0 (MQ below (QI g (eM g q) q 22 rr.1 rr.2 s.heap.size) args s 0 0 (AQ q 22 s.heap.size)) (F0 m 63 ls [])) (hD : D_X7_canAllBeRight_88 σ rc63 v3 t0 = some rr) (H : Heap) (locs : List Loc) (ls : Array Slot) (I : IM g q s σ H locs) (hl : lv_has ls 4 [(0, .ref (q 0)), (3, .int v3)]) : W p l e (rmD 4) s m args below meth c H locs 0 0 (MQ below (QI g (eM g q) q 22 rr.1 rr.2 s.heap.size) args s 0 0 (AQ q 22 s.heap.size)) (F0 m 88 ls [.int t0]) := by
  have hx := X.1
  have hb := X.2.1
  unfold D_X7_canAllBeRight_88 at hD
  refine lv_istore_n (lv' := [(2, .int t0), (0, .ref (q 0)), (3, .int v3)]) hx hb dX7_canAllBeRight_88 rfl hl (by decide) rfl (fun ls hl => ?_)
  refine lv_iinc (v := v3 + (1 : Int32)) (lv' := [(3, .int (v3 + (1 : Int32))), (2, .int t0), (0, .ref (q 0))]) hx hb dX7_canAllBeRight_89 hl (k := 2) rfl rfl (by decide) rfl (fun ls hl => ?_)
  refine lv_goto (tgt := 63) hx hb dX7_canAllBeRight_92 (by decide) ?_
  exact hrc63 t0 (v3 + (1 : Int32)) hD _ _ _ I (lv_sub hl [2, 1, 0] rfl)
def D_X7_canAllBeRight_83 (σ : St) (rc63 : Int32 → Int32 → Option (Int32 × St)) (v3 : Int32) : Option (Int32 × St) := D_X7_canAllBeRight_88 σ rc63 v3 (1 : Int32)
set_option maxRecDepth 100000 in
set_option maxHeartbeats 4000000 in
theorem w_X7_canAllBeRight_83 {p : Program} {l : Launch} {e : Env} {s : State} {m : MethodId} {args : Array Value} {below : List Frame} {meth : Method} {c : Code} (g : Gh) (q : Nat → Nat) (X : MX p s m args meth c cX7_canAllBeRight 4 (some .boolean) RX7) {rr : (Int32 × St)} (σ : St)  (v3 : Int32) (rc63 : Int32 → Int32 → Option (Int32 × St)) (hrc63 : ∀ (v2' : Int32) (v3' : Int32), rc63 v2' v3' = some rr → ∀ (H : Heap) (locs : List Loc) (ls : Array Slot), IM g q s σ H locs → lv_has ls 4 [(0, .ref (q 0)), (2, .int v2'), (3, .int v3')] → W p l e (rmD 4) s m args below meth c H locs 0 0 (MQ below (QI g (eM g q) q 22 rr.1 rr.2 s.heap.size) args s 0 0 (AQ q 22 s.heap.size)) (F0 m 63 ls [])) (hD : D_X7_canAllBeRight_83 σ rc63 v3 = some rr) (H : Heap) (locs : List Loc) (ls : Array Slot) (I : IM g q s σ H locs) (hl : lv_has ls 4 [(0, .ref (q 0)), (3, .int v3)]) : W p l e (rmD 4) s m args below meth c H locs 0 0 (MQ below (QI g (eM g q) q 22 rr.1 rr.2 s.heap.size) args s 0 0 (AQ q 22 s.heap.size)) (F0 m 83 ls []) := by
  have hx := X.1
  have hb := X.2.1
  unfold D_X7_canAllBeRight_83 at hD
  refine lv_iconst (v := 1) hx hb dX7_canAllBeRight_83 (by decide) ?_
  refine lv_goto (tgt := 88) hx hb dX7_canAllBeRight_84 (by decide) ?_
  exact w_X7_canAllBeRight_88 g q X σ v3 (1 : Int32) rc63 hrc63 hD _ _ _ I (lv_sub hl [0, 1] rfl)
def D_X7_canAllBeRight_63b (σ : St) (rc63 : Int32 → Int32 → Option (Int32 × St)) (v2 : Int32) (v3 : Int32) : Option (Int32 × St) := if (1024 : Int32) ≤ v3 then gd (isB v2) (some (v2, σ)) else if v2 = 0 then gd (inb v3 1024) (if (σ 13 v3.toNatClampNeg) = 0 then D_X7_canAllBeRight_88 σ rc63 v3 (0 : Int32) else D_X7_canAllBeRight_83 σ rc63 v3) else D_X7_canAllBeRight_83 σ rc63 v3
set_option maxRecDepth 100000 in
set_option maxHeartbeats 4000000 in
theorem w_X7_canAllBeRight_63b {p : Program} {l : Launch} {e : Env} {s : State} {m : MethodId} {args : Array Value} {below : List Frame} {meth : Method} {c : Code} (g : Gh) (q : Nat → Nat) (X : MX p s m args meth c cX7_canAllBeRight 4 (some .boolean) RX7) {rr : (Int32 × St)} (σ : St)  (v2 : Int32) (v3 : Int32) (rc63 : Int32 → Int32 → Option (Int32 × St)) (hrc63 : ∀ (v2' : Int32) (v3' : Int32), rc63 v2' v3' = some rr → ∀ (H : Heap) (locs : List Loc) (ls : Array Slot), IM g q s σ H locs → lv_has ls 4 [(0, .ref (q 0)), (2, .int v2'), (3, .int v3')] → W p l e (rmD 4) s m args below meth c H locs 0 0 (MQ below (QI g (eM g q) q 22 rr.1 rr.2 s.heap.size) args s 0 0 (AQ q 22 s.heap.size)) (F0 m 63 ls [])) (hD : D_X7_canAllBeRight_63b σ rc63 v2 v3 = some rr) (H : Heap) (locs : List Loc) (ls : Array Slot) (I : IM g q s σ H locs) (hl : lv_has ls 4 [(0, .ref (q 0)), (2, .int v2), (3, .int v3)]) : W p l e (rmD 4) s m args below meth c H locs 0 0 (MQ below (QI g (eM g q) q 22 rr.1 rr.2 s.heap.size) args s 0 0 (AQ q 22 s.heap.size)) (F0 m 63 ls []) := by
  have hx := X.1
  have hb := X.2.1
  unfold D_X7_canAllBeRight_63b at hD
  refine lv_iload_n hx hb dX7_canAllBeRight_63 rfl (lv_at hl 2 rfl) ?_
  refine lv_sipush (v := 1024) hx hb dX7_canAllBeRight_64 (by decide) ?_
  refine lv_icmp_ge (tgt := 95) hx hb dX7_canAllBeRight_67 (by decide) (fun hc38 => ?_) (fun hc38 => ?_)
  · have hD := ite_p hc38 hD
    refine lv_iload_n hx hb dX7_canAllBeRight_95 rfl (lv_at hl 1 rfl) ?_
    obtain ⟨hg40, hD⟩ := gd_s hD
    exact r_zret2 X I hD hg40 dX7_canAllBeRight_96
  · have hD := ite_n hc38 hD
    refine lv_iload_n hx hb dX7_canAllBeRight_70 rfl (lv_at hl 1 rfl) ?_
    refine lv_if_ne (tgt := 83) hx hb dX7_canAllBeRight_71 (by decide) (fun hc42 => ?_) (fun hc42 => ?_)
    · have hD := ite_n hc42 hD
      exact w_X7_canAllBeRight_83 g q X σ v3 rc63 hrc63 hD _ _ _ I (lv_sub hl [0, 2] rfl)
    · have hD := ite_p hc42 hD
      refine lv_aload_n hx hb dX7_canAllBeRight_74 rfl (lv_at hl 0 rfl) ?_
      refine g_Model_canBe X I fl_X7_46 dX7_canAllBeRight_75 ?_
      refine lv_iload_n hx hb dX7_canAllBeRight_78 rfl (lv_at hl 2 rfl) ?_
      obtain ⟨hg46, hD⟩ := gd_s hD
      refine r_zald X I (by decide) ((eMa_13 g q) _) hg46 dX7_canAllBeRight_79 ?_
      refine lv_if_eq (tgt := 87) hx hb dX7_canAllBeRight_80 (by decide) (fun hc47 => ?_) (fun hc47 => ?_)
      · have hD := ite_p hc47 hD
        refine lv_iconst (v := 0) hx hb dX7_canAllBeRight_87 (by decide) ?_
        exact w_X7_canAllBeRight_88 g q X σ v3 (0 : Int32) rc63 hrc63 hD _ _ _ I (lv_sub hl [0, 2] rfl)
      · have hD := ite_n hc47 hD
        exact w_X7_canAllBeRight_83 g q X σ v3 rc63 hrc63 hD _ _ _ I (lv_sub hl [0, 2] rfl)
def D_X7_canAllBeRight_63 (σ : St) : Nat → Int32 → Int32 → Option (Int32 × St)
  | 0 => fun _ _ => none
  | n + 1 => fun v2 v3 => D_X7_canAllBeRight_63b σ (D_X7_canAllBeRight_63 σ n) v2 v3
set_option maxRecDepth 100000 in
set_option maxHeartbeats 4000000 in
theorem w_X7_canAllBeRight_63 {p : Program} {l : Launch} {e : Env} {s : State} {m : MethodId} {args : Array Value} {below : List Frame} {meth : Method} {c : Code} (g : Gh) (q : Nat → Nat) (X : MX p s m args meth c cX7_canAllBeRight 4 (some .boolean) RX7) {rr : (Int32 × St)} (σ : St)  : ∀ (n : Nat) (v2 : Int32) (v3 : Int32), D_X7_canAllBeRight_63 σ n v2 v3 = some rr → ∀ (H : Heap) (locs : List Loc) (ls : Array Slot), IM g q s σ H locs → lv_has ls 4 [(0, .ref (q 0)), (2, .int v2), (3, .int v3)] → W p l e (rmD 4) s m args below meth c H locs 0 0 (MQ below (QI g (eM g q) q 22 rr.1 rr.2 s.heap.size) args s 0 0 (AQ q 22 s.heap.size)) (F0 m 63 ls []) := by
  intro n
  induction n with
  | zero =>
    intro v2 v3 hD H locs ls I hl
    cases hD
  | succ n ih =>
    intro v2 v3 hD H locs ls I hl
    exact w_X7_canAllBeRight_63b g q X σ v2 v3 _ ih hD H locs ls I hl
def D_X7_canAllBeRight_59 (σ : St) : Option (Int32 × St) := D_X7_canAllBeRight_63 σ FU (0 : Int32) (0 : Int32)
set_option maxRecDepth 100000 in
set_option maxHeartbeats 4000000 in
theorem w_X7_canAllBeRight_59 {p : Program} {l : Launch} {e : Env} {s : State} {m : MethodId} {args : Array Value} {below : List Frame} {meth : Method} {c : Code} (g : Gh) (q : Nat → Nat) (X : MX p s m args meth c cX7_canAllBeRight 4 (some .boolean) RX7) {rr : (Int32 × St)} (σ : St)  (hD : D_X7_canAllBeRight_59 σ = some rr) (H : Heap) (locs : List Loc) (ls : Array Slot) (I : IM g q s σ H locs) (hl : lv_has ls 4 [(0, .ref (q 0))]) : W p l e (rmD 4) s m args below meth c H locs 0 0 (MQ below (QI g (eM g q) q 22 rr.1 rr.2 s.heap.size) args s 0 0 (AQ q 22 s.heap.size)) (F0 m 59 ls []) := by
  have hx := X.1
  have hb := X.2.1
  unfold D_X7_canAllBeRight_59 at hD
  refine lv_iconst (v := 0) hx hb dX7_canAllBeRight_59 (by decide) ?_
  refine lv_istore_n (lv' := [(2, .int (0 : Int32)), (0, .ref (q 0))]) hx hb dX7_canAllBeRight_60 rfl hl (by decide) rfl (fun ls hl => ?_)
  refine lv_iconst (v := 0) hx hb dX7_canAllBeRight_61 (by decide) ?_
  refine lv_istore_n (lv' := [(3, .int (0 : Int32)), (2, .int (0 : Int32)), (0, .ref (q 0))]) hx hb dX7_canAllBeRight_62 rfl hl (by decide) rfl (fun ls hl => ?_)
  exact w_X7_canAllBeRight_63 g q X σ FU (0 : Int32) (0 : Int32) hD _ _ _ I (lv_sub hl [2, 1, 0] rfl)
def D_X7_canAllBeRight_53 (σ : St) (rc32 : St → Int32 → Option (Int32 × St)) (v1 : Int32) (v2 : Int32) : Option (Int32 × St) := rc32 σ (v2 + (1 : Int32))
set_option maxRecDepth 100000 in
set_option maxHeartbeats 4000000 in
theorem w_X7_canAllBeRight_53 {p : Program} {l : Launch} {e : Env} {s : State} {m : MethodId} {args : Array Value} {below : List Frame} {meth : Method} {c : Code} (g : Gh) (q : Nat → Nat) (X : MX p s m args meth c cX7_canAllBeRight 4 (some .boolean) RX7) {rr : (Int32 × St)} (σ : St)  (v1 : Int32) (v2 : Int32) (rc32 : St → Int32 → Option (Int32 × St)) (hrc32 : ∀ (σ' : St) (v2' : Int32), rc32 σ' v2' = some rr → ∀ (H : Heap) (locs : List Loc) (ls : Array Slot), IM g q s σ' H locs → lv_has ls 4 [(0, .ref (q 0)), (1, .int v1), (2, .int v2')] → W p l e (rmD 4) s m args below meth c H locs 0 0 (MQ below (QI g (eM g q) q 22 rr.1 rr.2 s.heap.size) args s 0 0 (AQ q 22 s.heap.size)) (F0 m 32 ls [])) (hD : D_X7_canAllBeRight_53 σ rc32 v1 v2 = some rr) (H : Heap) (locs : List Loc) (ls : Array Slot) (I : IM g q s σ H locs) (hl : lv_has ls 4 [(0, .ref (q 0)), (1, .int v1), (2, .int v2)]) : W p l e (rmD 4) s m args below meth c H locs 0 0 (MQ below (QI g (eM g q) q 22 rr.1 rr.2 s.heap.size) args s 0 0 (AQ q 22 s.heap.size)) (F0 m 53 ls []) := by
  have hx := X.1
  have hb := X.2.1
  unfold D_X7_canAllBeRight_53 at hD
  refine lv_iinc (v := v2 + (1 : Int32)) (lv' := [(2, .int (v2 + (1 : Int32))), (0, .ref (q 0)), (1, .int v1)]) hx hb dX7_canAllBeRight_53 hl (k := 2) rfl rfl (by decide) rfl (fun ls hl => ?_)
  refine lv_goto (tgt := 32) hx hb dX7_canAllBeRight_56 (by decide) ?_
  exact hrc32 σ (v2 + (1 : Int32)) hD _ _ _ I (lv_sub hl [1, 2, 0] rfl)
def D_X7_canAllBeRight_32b (σ : St) (rc32 : St → Int32 → Option (Int32 × St)) (v1 : Int32) (v2 : Int32) : Option (Int32 × St) := if (σ 0 4) ≤ v2 then D_X7_canAllBeRight_59 σ else (D_X7_isIn σ v1 v2).bind fun y25 => if y25 = 0 then D_X7_canAllBeRight_53 σ rc32 v1 v2 else (D_X7_goOn σ v2).bind fun y29 => D_X7_canAllBeRight_53 y29 rc32 v1 v2
set_option maxRecDepth 100000 in
set_option maxHeartbeats 4000000 in
theorem w_X7_canAllBeRight_32b {p : Program} {l : Launch} {e : Env} {s : State} {m : MethodId} {args : Array Value} {below : List Frame} {meth : Method} {c : Code} (g : Gh) (q : Nat → Nat) (X : MX p s m args meth c cX7_canAllBeRight 4 (some .boolean) RX7) {rr : (Int32 × St)} (σ : St)  (v1 : Int32) (v2 : Int32) (rc32 : St → Int32 → Option (Int32 × St)) (hrc32 : ∀ (σ' : St) (v2' : Int32), rc32 σ' v2' = some rr → ∀ (H : Heap) (locs : List Loc) (ls : Array Slot), IM g q s σ' H locs → lv_has ls 4 [(0, .ref (q 0)), (1, .int v1), (2, .int v2')] → W p l e (rmD 4) s m args below meth c H locs 0 0 (MQ below (QI g (eM g q) q 22 rr.1 rr.2 s.heap.size) args s 0 0 (AQ q 22 s.heap.size)) (F0 m 32 ls [])) (hD : D_X7_canAllBeRight_32b σ rc32 v1 v2 = some rr) (H : Heap) (locs : List Loc) (ls : Array Slot) (I : IM g q s σ H locs) (hl : lv_has ls 4 [(0, .ref (q 0)), (1, .int v1), (2, .int v2)]) : W p l e (rmD 4) s m args below meth c H locs 0 0 (MQ below (QI g (eM g q) q 22 rr.1 rr.2 s.heap.size) args s 0 0 (AQ q 22 s.heap.size)) (F0 m 32 ls []) := by
  have hx := X.1
  have hb := X.2.1
  unfold D_X7_canAllBeRight_32b at hD
  refine lv_iload_n hx hb dX7_canAllBeRight_32 rfl (lv_at hl 2 rfl) ?_
  refine lv_aload_n hx hb dX7_canAllBeRight_33 rfl (lv_at hl 0 rfl) ?_
  refine g_Model_riders X I fl_X7_91 dX7_canAllBeRight_34 ?_
  refine lv_icmp_ge (tgt := 59) hx hb dX7_canAllBeRight_37 (by decide) (fun hc22 => ?_) (fun hc22 => ?_)
  · have hD := ite_p hc22 hD
    exact w_X7_canAllBeRight_59 g q X σ hD _ _ _ I (lv_sub hl [0] rfl)
  · have hD := ite_n hc22 hD
    refine lv_iload_n hx hb dX7_canAllBeRight_40 rfl (lv_at hl 1 rfl) ?_
    refine lv_iload_n hx hb dX7_canAllBeRight_41 rfl (lv_at hl 2 rfl) ?_
    obtain ⟨y25, hy25, hD⟩ := bd_s hD
    refine r_calli (r_runS (As := [.int v1, .int v2]) (rest := []) X I (c_X7_isIn l g q _ σ v1 v2 hy25) ks_X7_isIn ml_X7_171 ⟨Nat.le_of_ble_eq_true rfl, Nat.le_of_ble_eq_true rfl⟩ ⟨Nat.zero_le _, Nat.zero_le _⟩ rfl rfl hl.1 (Nat.le_of_ble_eq_true rfl) dX7_canAllBeRight_42) I (fun H locs I => ?_)
    refine lv_if_eq (tgt := 53) hx hb dX7_canAllBeRight_45 (by decide) (fun hc26 => ?_) (fun hc26 => ?_)
    · have hD := ite_p hc26 hD
      exact w_X7_canAllBeRight_53 g q X σ v1 v2 rc32 hrc32 hD _ _ _ I (lv_sub hl [0, 1, 2] rfl)
    · have hD := ite_n hc26 hD
      refine lv_aload_n hx hb dX7_canAllBeRight_48 rfl (lv_at hl 0 rfl) ?_
      refine lv_iload_n hx hb dX7_canAllBeRight_49 rfl (lv_at hl 2 rfl) ?_
      obtain ⟨y29, hy29, hD⟩ := bd_s hD
      refine r_callv (r_runV (As := [.int v2]) (rest := []) X I (c_X7_goOn l g q _ σ v2 hy29) kv_X7_goOn ml_X7_218 rfl (by decide) (eM_Model g q _) ⟨Nat.le_of_ble_eq_true rfl, Nat.le_of_ble_eq_true rfl⟩ ⟨Nat.zero_le _, Nat.zero_le _⟩ rfl rfl hl.1 (Nat.le_of_ble_eq_true rfl) dX7_canAllBeRight_50) I (fun H locs I => ?_)
      exact w_X7_canAllBeRight_53 g q X y29 v1 v2 rc32 hrc32 hD _ _ _ I (lv_sub hl [0, 1, 2] rfl)
def D_X7_canAllBeRight_32  (v1 : Int32) : Nat → St → Int32 → Option (Int32 × St)
  | 0 => fun _ _ => none
  | n + 1 => fun σ v2 => D_X7_canAllBeRight_32b σ (D_X7_canAllBeRight_32 v1 n) v1 v2
set_option maxRecDepth 100000 in
set_option maxHeartbeats 4000000 in
theorem w_X7_canAllBeRight_32 {p : Program} {l : Launch} {e : Env} {s : State} {m : MethodId} {args : Array Value} {below : List Frame} {meth : Method} {c : Code} (g : Gh) (q : Nat → Nat) (X : MX p s m args meth c cX7_canAllBeRight 4 (some .boolean) RX7) {rr : (Int32 × St)}  (v1 : Int32) : ∀ (n : Nat) (σ : St) (v2 : Int32), D_X7_canAllBeRight_32 v1 n σ v2 = some rr → ∀ (H : Heap) (locs : List Loc) (ls : Array Slot), IM g q s σ H locs → lv_has ls 4 [(0, .ref (q 0)), (1, .int v1), (2, .int v2)] → W p l e (rmD 4) s m args below meth c H locs 0 0 (MQ below (QI g (eM g q) q 22 rr.1 rr.2 s.heap.size) args s 0 0 (AQ q 22 s.heap.size)) (F0 m 32 ls []) := by
  intro n
  induction n with
  | zero =>
    intro σ v2 hD H locs ls I hl
    cases hD
  | succ n ih =>
    intro σ v2 hD H locs ls I hl
    exact w_X7_canAllBeRight_32b g q X σ v1 v2 _ ih hD H locs ls I hl
def D_X7_canAllBeRight_30 (σ : St) (v1 : Int32) : Option (Int32 × St) := D_X7_canAllBeRight_32 v1 FU σ (0 : Int32)
set_option maxRecDepth 100000 in
set_option maxHeartbeats 4000000 in
theorem w_X7_canAllBeRight_30 {p : Program} {l : Launch} {e : Env} {s : State} {m : MethodId} {args : Array Value} {below : List Frame} {meth : Method} {c : Code} (g : Gh) (q : Nat → Nat) (X : MX p s m args meth c cX7_canAllBeRight 4 (some .boolean) RX7) {rr : (Int32 × St)} (σ : St)  (v1 : Int32) (hD : D_X7_canAllBeRight_30 σ v1 = some rr) (H : Heap) (locs : List Loc) (ls : Array Slot) (I : IM g q s σ H locs) (hl : lv_has ls 4 [(0, .ref (q 0)), (1, .int v1)]) : W p l e (rmD 4) s m args below meth c H locs 0 0 (MQ below (QI g (eM g q) q 22 rr.1 rr.2 s.heap.size) args s 0 0 (AQ q 22 s.heap.size)) (F0 m 30 ls []) := by
  have hx := X.1
  have hb := X.2.1
  unfold D_X7_canAllBeRight_30 at hD
  refine lv_iconst (v := 0) hx hb dX7_canAllBeRight_30 (by decide) ?_
  refine lv_istore_n (lv' := [(2, .int (0 : Int32)), (0, .ref (q 0)), (1, .int v1)]) hx hb dX7_canAllBeRight_31 rfl hl (by decide) rfl (fun ls hl => ?_)
  exact w_X7_canAllBeRight_32 g q X v1 FU σ (0 : Int32) hD _ _ _ I (lv_sub hl [1, 2, 0] rfl)
def D_X7_canAllBeRight_23 (σ : St) (rc2 : St → Int32 → Option (Int32 × St)) (v1 : Int32) (v2 : Int32) (t0 : Int32) (t1 : Int32) : Option (Int32 × St) := gd (inb t1 1024) (rc2 (up2 σ 13 t1.toNatClampNeg (vp_nar .boolean t0)) (v2 + (1 : Int32)))
set_option maxRecDepth 100000 in
set_option maxHeartbeats 4000000 in
theorem w_X7_canAllBeRight_23 {p : Program} {l : Launch} {e : Env} {s : State} {m : MethodId} {args : Array Value} {below : List Frame} {meth : Method} {c : Code} (g : Gh) (q : Nat → Nat) (X : MX p s m args meth c cX7_canAllBeRight 4 (some .boolean) RX7) {rr : (Int32 × St)} (σ : St)  (v1 : Int32) (v2 : Int32) (t0 : Int32) (t1 : Int32) (rc2 : St → Int32 → Option (Int32 × St)) (hrc2 : ∀ (σ' : St) (v2' : Int32), rc2 σ' v2' = some rr → ∀ (H : Heap) (locs : List Loc) (ls : Array Slot), IM g q s σ' H locs → lv_has ls 4 [(0, .ref (q 0)), (1, .int v1), (2, .int v2')] → W p l e (rmD 4) s m args below meth c H locs 0 0 (MQ below (QI g (eM g q) q 22 rr.1 rr.2 s.heap.size) args s 0 0 (AQ q 22 s.heap.size)) (F0 m 2 ls [])) (hD : D_X7_canAllBeRight_23 σ rc2 v1 v2 t0 t1 = some rr) (H : Heap) (locs : List Loc) (ls : Array Slot) (I : IM g q s σ H locs) (hl : lv_has ls 4 [(0, .ref (q 0)), (1, .int v1), (2, .int v2)]) : W p l e (rmD 4) s m args below meth c H locs 0 0 (MQ below (QI g (eM g q) q 22 rr.1 rr.2 s.heap.size) args s 0 0 (AQ q 22 s.heap.size)) (F0 m 23 ls [.int t0, .int t1, .ref (q 13)]) := by
  have hx := X.1
  have hb := X.2.1
  unfold D_X7_canAllBeRight_23 at hD
  obtain ⟨hg16, hD⟩ := gd_s hD
  refine r_zast (eM_loc g q) X I (by decide) (eMa_13 g q) hg16 dX7_canAllBeRight_23 (fun H locs I => ?_)
  refine lv_iinc (v := v2 + (1 : Int32)) (lv' := [(2, .int (v2 + (1 : Int32))), (0, .ref (q 0)), (1, .int v1)]) hx hb dX7_canAllBeRight_24 hl (k := 2) rfl rfl (by decide) rfl (fun ls hl => ?_)
  refine lv_goto (tgt := 2) hx hb dX7_canAllBeRight_27 (by decide) ?_
  exact hrc2 (up2 σ 13 t1.toNatClampNeg (vp_nar .boolean t0)) (v2 + (1 : Int32)) hD _ _ _ I (lv_sub hl [1, 2, 0] rfl)
def D_X7_canAllBeRight_2b (σ : St) (rc2 : St → Int32 → Option (Int32 × St)) (v1 : Int32) (v2 : Int32) : Option (Int32 × St) := if (1024 : Int32) ≤ v2 then D_X7_canAllBeRight_30 σ v1 else if v2 = 0 then D_X7_canAllBeRight_23 σ rc2 v1 v2 (1 : Int32) v2 else D_X7_canAllBeRight_23 σ rc2 v1 v2 (0 : Int32) v2
set_option maxRecDepth 100000 in
set_option maxHeartbeats 4000000 in
theorem w_X7_canAllBeRight_2b {p : Program} {l : Launch} {e : Env} {s : State} {m : MethodId} {args : Array Value} {below : List Frame} {meth : Method} {c : Code} (g : Gh) (q : Nat → Nat) (X : MX p s m args meth c cX7_canAllBeRight 4 (some .boolean) RX7) {rr : (Int32 × St)} (σ : St)  (v1 : Int32) (v2 : Int32) (rc2 : St → Int32 → Option (Int32 × St)) (hrc2 : ∀ (σ' : St) (v2' : Int32), rc2 σ' v2' = some rr → ∀ (H : Heap) (locs : List Loc) (ls : Array Slot), IM g q s σ' H locs → lv_has ls 4 [(0, .ref (q 0)), (1, .int v1), (2, .int v2')] → W p l e (rmD 4) s m args below meth c H locs 0 0 (MQ below (QI g (eM g q) q 22 rr.1 rr.2 s.heap.size) args s 0 0 (AQ q 22 s.heap.size)) (F0 m 2 ls [])) (hD : D_X7_canAllBeRight_2b σ rc2 v1 v2 = some rr) (H : Heap) (locs : List Loc) (ls : Array Slot) (I : IM g q s σ H locs) (hl : lv_has ls 4 [(0, .ref (q 0)), (1, .int v1), (2, .int v2)]) : W p l e (rmD 4) s m args below meth c H locs 0 0 (MQ below (QI g (eM g q) q 22 rr.1 rr.2 s.heap.size) args s 0 0 (AQ q 22 s.heap.size)) (F0 m 2 ls []) := by
  have hx := X.1
  have hb := X.2.1
  unfold D_X7_canAllBeRight_2b at hD
  refine lv_iload_n hx hb dX7_canAllBeRight_2 rfl (lv_at hl 2 rfl) ?_
  refine lv_sipush (v := 1024) hx hb dX7_canAllBeRight_3 (by decide) ?_
  refine lv_icmp_ge (tgt := 30) hx hb dX7_canAllBeRight_6 (by decide) (fun hc5 => ?_) (fun hc5 => ?_)
  · have hD := ite_p hc5 hD
    exact w_X7_canAllBeRight_30 g q X σ v1 hD _ _ _ I (lv_sub hl [0, 1] rfl)
  · have hD := ite_n hc5 hD
    refine lv_aload_n hx hb dX7_canAllBeRight_9 rfl (lv_at hl 0 rfl) ?_
    refine g_Model_canBe X I fl_X7_46 dX7_canAllBeRight_10 ?_
    refine lv_iload_n hx hb dX7_canAllBeRight_13 rfl (lv_at hl 2 rfl) ?_
    refine lv_iload_n hx hb dX7_canAllBeRight_14 rfl (lv_at hl 2 rfl) ?_
    refine lv_if_ne (tgt := 22) hx hb dX7_canAllBeRight_15 (by decide) (fun hc10 => ?_) (fun hc10 => ?_)
    · have hD := ite_n hc10 hD
      refine lv_iconst (v := 0) hx hb dX7_canAllBeRight_22 (by decide) ?_
      exact w_X7_canAllBeRight_23 g q X σ v1 v2 (0 : Int32) v2 rc2 hrc2 hD _ _ _ I (lv_sub hl [0, 1, 2] rfl)
    · have hD := ite_p hc10 hD
      refine lv_iconst (v := 1) hx hb dX7_canAllBeRight_18 (by decide) ?_
      refine lv_goto (tgt := 23) hx hb dX7_canAllBeRight_19 (by decide) ?_
      exact w_X7_canAllBeRight_23 g q X σ v1 v2 (1 : Int32) v2 rc2 hrc2 hD _ _ _ I (lv_sub hl [0, 1, 2] rfl)
def D_X7_canAllBeRight_2  (v1 : Int32) : Nat → St → Int32 → Option (Int32 × St)
  | 0 => fun _ _ => none
  | n + 1 => fun σ v2 => D_X7_canAllBeRight_2b σ (D_X7_canAllBeRight_2 v1 n) v1 v2
set_option maxRecDepth 100000 in
set_option maxHeartbeats 4000000 in
theorem w_X7_canAllBeRight_2 {p : Program} {l : Launch} {e : Env} {s : State} {m : MethodId} {args : Array Value} {below : List Frame} {meth : Method} {c : Code} (g : Gh) (q : Nat → Nat) (X : MX p s m args meth c cX7_canAllBeRight 4 (some .boolean) RX7) {rr : (Int32 × St)}  (v1 : Int32) : ∀ (n : Nat) (σ : St) (v2 : Int32), D_X7_canAllBeRight_2 v1 n σ v2 = some rr → ∀ (H : Heap) (locs : List Loc) (ls : Array Slot), IM g q s σ H locs → lv_has ls 4 [(0, .ref (q 0)), (1, .int v1), (2, .int v2)] → W p l e (rmD 4) s m args below meth c H locs 0 0 (MQ below (QI g (eM g q) q 22 rr.1 rr.2 s.heap.size) args s 0 0 (AQ q 22 s.heap.size)) (F0 m 2 ls []) := by
  intro n
  induction n with
  | zero =>
    intro σ v2 hD H locs ls I hl
    cases hD
  | succ n ih =>
    intro σ v2 hD H locs ls I hl
    exact w_X7_canAllBeRight_2b g q X σ v1 v2 _ ih hD H locs ls I hl
def D_X7_canAllBeRight (σ : St) (p1 : Int32) : Option (Int32 × St) := D_X7_canAllBeRight_2 p1 FU σ (0 : Int32)
set_option maxRecDepth 100000 in
set_option maxHeartbeats 4000000 in
theorem c_X7_canAllBeRight (l : Launch) (g : Gh) (q : Nat → Nat) (sz : Nat) (σ : St) (p1 : Int32) {rr : (Int32 × St)} (hD : D_X7_canAllBeRight σ p1 = some rr) : Met l yX7_canAllBeRight (wU yX7_canAllBeRight cX7_canAllBeRight 4 (some .boolean)) (rmD 4) (PQ g (eM g q) q 22 σ sz [.ref (q 0), .int p1]) (QI g (eM g q) q 22 rr.1 rr.2 sz) 0 0 (AQ q 22 sz) := by
  refine met_of (Qc := QI g (eM g q) q 22 rr.1 rr.2) (by decide) (Nat.le_of_ble_eq_true rfl) ?_
  intro p e s m below meth c ls X I hl
  have hx := X.1
  have hb := X.2.1
  have hl : lv_has ls 4 [(0, .ref (q 0)), (1, .int p1)] := hl
  unfold D_X7_canAllBeRight at hD
  refine lv_iconst (v := 0) hx hb dX7_canAllBeRight_0 (by decide) ?_
  refine lv_istore_n (lv' := [(2, .int (0 : Int32)), (0, .ref (q 0)), (1, .int p1)]) hx hb dX7_canAllBeRight_1 rfl hl (by decide) rfl (fun ls hl => ?_)
  exact w_X7_canAllBeRight_2 g q X p1 FU σ (0 : Int32) hD _ _ _ I (lv_sub hl [1, 2, 0] rfl)

/-! YearDeckModel.most()I -/
def D_X7_most_48 (σ : St) (rc14 : St → Int32 → Int32 → Option (Int32 × St)) (v2 : Int32) (t0 : Int32) : Option (Int32 × St) := rc14 σ t0 (v2 + (1 : Int32))
set_option maxRecDepth 100000 in
set_option maxHeartbeats 4000000 in
theorem w_X7_most_48 {p : Program} {l : Launch} {e : Env} {s : State} {m : MethodId} {args : Array Value} {below : List Frame} {meth : Method} {c : Code} (g : Gh) (q : Nat → Nat) (X : MX p s m args meth c cX7_most 3 (some .int) RX7) {rr : (Int32 × St)} (σ : St)  (v2 : Int32) (t0 : Int32) (rc14 : St → Int32 → Int32 → Option (Int32 × St)) (hrc14 : ∀ (σ' : St) (v1' : Int32) (v2' : Int32), rc14 σ' v1' v2' = some rr → ∀ (H : Heap) (locs : List Loc) (ls : Array Slot), IM g q s σ' H locs → lv_has ls 3 [(0, .ref (q 0)), (1, .int v1'), (2, .int v2')] → W p l e (rmD 5) s m args below meth c H locs 0 0 (MQ below (QI g (eM g q) q 22 rr.1 rr.2 s.heap.size) args s 0 0 (AQ q 22 s.heap.size)) (F0 m 14 ls [])) (hD : D_X7_most_48 σ rc14 v2 t0 = some rr) (H : Heap) (locs : List Loc) (ls : Array Slot) (I : IM g q s σ H locs) (hl : lv_has ls 3 [(0, .ref (q 0)), (2, .int v2)]) : W p l e (rmD 5) s m args below meth c H locs 0 0 (MQ below (QI g (eM g q) q 22 rr.1 rr.2 s.heap.size) args s 0 0 (AQ q 22 s.heap.size)) (F0 m 48 ls [.int t0]) := by
  have hx := X.1
  have hb := X.2.1
  unfold D_X7_most_48 at hD
  refine lv_istore_n (lv' := [(1, .int t0), (0, .ref (q 0)), (2, .int v2)]) hx hb dX7_most_48 rfl hl (by decide) rfl (fun ls hl => ?_)
  refine lv_iinc (v := v2 + (1 : Int32)) (lv' := [(2, .int (v2 + (1 : Int32))), (1, .int t0), (0, .ref (q 0))]) hx hb dX7_most_49 hl (k := 2) rfl rfl (by decide) rfl (fun ls hl => ?_)
  refine lv_goto (tgt := 14) hx hb dX7_most_52 (by decide) ?_
  exact hrc14 σ t0 (v2 + (1 : Int32)) hD _ _ _ I (lv_sub hl [2, 1, 0] rfl)
def D_X7_most_47 (σ : St) (rc14 : St → Int32 → Int32 → Option (Int32 × St)) (v1 : Int32) (v2 : Int32) : Option (Int32 × St) := D_X7_most_48 σ rc14 v2 v1
set_option maxRecDepth 100000 in
set_option maxHeartbeats 4000000 in
theorem w_X7_most_47 {p : Program} {l : Launch} {e : Env} {s : State} {m : MethodId} {args : Array Value} {below : List Frame} {meth : Method} {c : Code} (g : Gh) (q : Nat → Nat) (X : MX p s m args meth c cX7_most 3 (some .int) RX7) {rr : (Int32 × St)} (σ : St)  (v1 : Int32) (v2 : Int32) (rc14 : St → Int32 → Int32 → Option (Int32 × St)) (hrc14 : ∀ (σ' : St) (v1' : Int32) (v2' : Int32), rc14 σ' v1' v2' = some rr → ∀ (H : Heap) (locs : List Loc) (ls : Array Slot), IM g q s σ' H locs → lv_has ls 3 [(0, .ref (q 0)), (1, .int v1'), (2, .int v2')] → W p l e (rmD 5) s m args below meth c H locs 0 0 (MQ below (QI g (eM g q) q 22 rr.1 rr.2 s.heap.size) args s 0 0 (AQ q 22 s.heap.size)) (F0 m 14 ls [])) (hD : D_X7_most_47 σ rc14 v1 v2 = some rr) (H : Heap) (locs : List Loc) (ls : Array Slot) (I : IM g q s σ H locs) (hl : lv_has ls 3 [(0, .ref (q 0)), (1, .int v1), (2, .int v2)]) : W p l e (rmD 5) s m args below meth c H locs 0 0 (MQ below (QI g (eM g q) q 22 rr.1 rr.2 s.heap.size) args s 0 0 (AQ q 22 s.heap.size)) (F0 m 47 ls []) := by
  have hx := X.1
  have hb := X.2.1
  unfold D_X7_most_47 at hD
  refine lv_iload_n hx hb dX7_most_47 rfl (lv_at hl 1 rfl) ?_
  exact w_X7_most_48 g q X σ v2 v1 rc14 hrc14 hD _ _ _ I (lv_sub hl [0, 2] rfl)
def D_X7_most_14b (σ : St) (rc14 : St → Int32 → Int32 → Option (Int32 × St)) (v1 : Int32) (v2 : Int32) : Option (Int32 × St) := if ((1 : Int32) <<< ((σ 0 4) &&& 31)) ≤ v2 then some (v1, σ) else (D_X7_bits σ v2).bind fun y19 => (D_X7_bits σ v1).bind fun y21 => if y19 ≤ y21 then D_X7_most_47 σ rc14 v1 v2 else (D_X7_canAllBeRight σ v2).bind fun y25 => if y25.1 = 0 then D_X7_most_47 y25.2 rc14 v1 v2 else D_X7_most_48 y25.2 rc14 v2 v2
set_option maxRecDepth 100000 in
set_option maxHeartbeats 4000000 in
theorem w_X7_most_14b {p : Program} {l : Launch} {e : Env} {s : State} {m : MethodId} {args : Array Value} {below : List Frame} {meth : Method} {c : Code} (g : Gh) (q : Nat → Nat) (X : MX p s m args meth c cX7_most 3 (some .int) RX7) {rr : (Int32 × St)} (σ : St)  (v1 : Int32) (v2 : Int32) (rc14 : St → Int32 → Int32 → Option (Int32 × St)) (hrc14 : ∀ (σ' : St) (v1' : Int32) (v2' : Int32), rc14 σ' v1' v2' = some rr → ∀ (H : Heap) (locs : List Loc) (ls : Array Slot), IM g q s σ' H locs → lv_has ls 3 [(0, .ref (q 0)), (1, .int v1'), (2, .int v2')] → W p l e (rmD 5) s m args below meth c H locs 0 0 (MQ below (QI g (eM g q) q 22 rr.1 rr.2 s.heap.size) args s 0 0 (AQ q 22 s.heap.size)) (F0 m 14 ls [])) (hD : D_X7_most_14b σ rc14 v1 v2 = some rr) (H : Heap) (locs : List Loc) (ls : Array Slot) (I : IM g q s σ H locs) (hl : lv_has ls 3 [(0, .ref (q 0)), (1, .int v1), (2, .int v2)]) : W p l e (rmD 5) s m args below meth c H locs 0 0 (MQ below (QI g (eM g q) q 22 rr.1 rr.2 s.heap.size) args s 0 0 (AQ q 22 s.heap.size)) (F0 m 14 ls []) := by
  have hx := X.1
  have hb := X.2.1
  unfold D_X7_most_14b at hD
  refine lv_iload_n hx hb dX7_most_14 rfl (lv_at hl 2 rfl) ?_
  refine lv_iconst (v := 1) hx hb dX7_most_15 (by decide) ?_
  refine lv_aload_n hx hb dX7_most_16 rfl (lv_at hl 0 rfl) ?_
  refine g_Model_riders X I fl_X7_91 dX7_most_17 ?_
  refine lv_ishl hx hb dX7_most_20 ?_
  refine lv_icmp_ge (tgt := 55) hx hb dX7_most_21 (by decide) (fun hc15 => ?_) (fun hc15 => ?_)
  · have hD := ite_p hc15 hD
    refine lv_iload_n hx hb dX7_most_55 rfl (lv_at hl 1 rfl) ?_
    exact r_iret2 X I hD dX7_most_56
  · have hD := ite_n hc15 hD
    refine lv_iload_n hx hb dX7_most_24 rfl (lv_at hl 2 rfl) ?_
    obtain ⟨y19, hy19, hD⟩ := bd_s hD
    refine r_calli (r_runS (As := [.int v2]) (rest := []) X I (c_X7_bits l g q _ σ v2 hy19) ks_X7_bits ml_X7_186 ⟨Nat.le_of_ble_eq_true rfl, Nat.le_of_ble_eq_true rfl⟩ ⟨Nat.zero_le _, Nat.zero_le _⟩ rfl rfl hl.1 (Nat.le_of_ble_eq_true rfl) dX7_most_25) I (fun H locs I => ?_)
    refine lv_iload_n hx hb dX7_most_28 rfl (lv_at hl 1 rfl) ?_
    obtain ⟨y21, hy21, hD⟩ := bd_s hD
    refine r_calli (r_runS (As := [.int v1]) (rest := [.int y19]) X I (c_X7_bits l g q _ σ v1 hy21) ks_X7_bits ml_X7_186 ⟨Nat.le_of_ble_eq_true rfl, Nat.le_of_ble_eq_true rfl⟩ ⟨Nat.zero_le _, Nat.zero_le _⟩ rfl rfl hl.1 (Nat.le_of_ble_eq_true rfl) dX7_most_29) I (fun H locs I => ?_)
    refine lv_icmp_le (tgt := 47) hx hb dX7_most_32 (by decide) (fun hc22 => ?_) (fun hc22 => ?_)
    · have hD := ite_p hc22 hD
      exact w_X7_most_47 g q X σ v1 v2 rc14 hrc14 hD _ _ _ I (lv_sub hl [0, 1, 2] rfl)
    · have hD := ite_n hc22 hD
      refine lv_aload_n hx hb dX7_most_35 rfl (lv_at hl 0 rfl) ?_
      refine lv_iload_n hx hb dX7_most_36 rfl (lv_at hl 2 rfl) ?_
      obtain ⟨y25, hy25, hD⟩ := bd_s hD
      refine r_calli (r_runV (As := [.int v2]) (rest := []) X I (c_X7_canAllBeRight l g q _ σ v2 hy25) kv_X7_canAllBeRight ml_X7_221 rfl (by decide) (eM_Model g q _) ⟨Nat.le_of_ble_eq_true rfl, Nat.le_of_ble_eq_true rfl⟩ ⟨Nat.zero_le _, Nat.zero_le _⟩ rfl rfl hl.1 (Nat.le_of_ble_eq_true rfl) dX7_most_37) I (fun H locs I => ?_)
      refine lv_if_eq (tgt := 47) hx hb dX7_most_40 (by decide) (fun hc26 => ?_) (fun hc26 => ?_)
      · have hD := ite_p hc26 hD
        exact w_X7_most_47 g q X y25.2 v1 v2 rc14 hrc14 hD _ _ _ I (lv_sub hl [0, 1, 2] rfl)
      · have hD := ite_n hc26 hD
        refine lv_iload_n hx hb dX7_most_43 rfl (lv_at hl 2 rfl) ?_
        refine lv_goto (tgt := 48) hx hb dX7_most_44 (by decide) ?_
        exact w_X7_most_48 g q X y25.2 v2 v2 rc14 hrc14 hD _ _ _ I (lv_sub hl [0, 2] rfl)
def D_X7_most_14  : Nat → St → Int32 → Int32 → Option (Int32 × St)
  | 0 => fun _ _ _ => none
  | n + 1 => fun σ v1 v2 => D_X7_most_14b σ (D_X7_most_14 n) v1 v2
set_option maxRecDepth 100000 in
set_option maxHeartbeats 4000000 in
theorem w_X7_most_14 {p : Program} {l : Launch} {e : Env} {s : State} {m : MethodId} {args : Array Value} {below : List Frame} {meth : Method} {c : Code} (g : Gh) (q : Nat → Nat) (X : MX p s m args meth c cX7_most 3 (some .int) RX7) {rr : (Int32 × St)}  : ∀ (n : Nat) (σ : St) (v1 : Int32) (v2 : Int32), D_X7_most_14 n σ v1 v2 = some rr → ∀ (H : Heap) (locs : List Loc) (ls : Array Slot), IM g q s σ H locs → lv_has ls 3 [(0, .ref (q 0)), (1, .int v1), (2, .int v2)] → W p l e (rmD 5) s m args below meth c H locs 0 0 (MQ below (QI g (eM g q) q 22 rr.1 rr.2 s.heap.size) args s 0 0 (AQ q 22 s.heap.size)) (F0 m 14 ls []) := by
  intro n
  induction n with
  | zero =>
    intro σ v1 v2 hD H locs ls I hl
    cases hD
  | succ n ih =>
    intro σ v1 v2 hD H locs ls I hl
    exact w_X7_most_14b g q X σ v1 v2 _ ih hD H locs ls I hl
def D_X7_most (σ : St) : Option (Int32 × St) := if (σ 0 4) = 0 then some ((-3 : Int32), σ) else D_X7_most_14 FU σ (0 : Int32) (1 : Int32)
set_option maxRecDepth 100000 in
set_option maxHeartbeats 4000000 in
theorem c_X7_most (l : Launch) (g : Gh) (q : Nat → Nat) (sz : Nat) (σ : St) {rr : (Int32 × St)} (hD : D_X7_most σ = some rr) : Met l yX7_most (wU yX7_most cX7_most 3 (some .int)) (rmD 5) (PQ g (eM g q) q 22 σ sz [.ref (q 0)]) (QI g (eM g q) q 22 rr.1 rr.2 sz) 0 0 (AQ q 22 sz) := by
  refine met_of (Qc := QI g (eM g q) q 22 rr.1 rr.2) (by decide) (Nat.le_of_ble_eq_true rfl) ?_
  intro p e s m below meth c ls X I hl
  have hx := X.1
  have hb := X.2.1
  have hl : lv_has ls 3 [(0, .ref (q 0))] := hl
  unfold D_X7_most at hD
  refine lv_aload_n hx hb dX7_most_0 rfl (lv_at hl 0 rfl) ?_
  refine g_Model_riders X I fl_X7_91 dX7_most_1 ?_
  refine lv_if_ne (tgt := 10) hx hb dX7_most_4 (by decide) (fun hc3 => ?_) (fun hc3 => ?_)
  · have hD := ite_n hc3 hD
    refine lv_iconst (v := 0) hx hb dX7_most_10 (by decide) ?_
    refine lv_istore_n (lv' := [(1, .int (0 : Int32)), (0, .ref (q 0))]) hx hb dX7_most_11 rfl hl (by decide) rfl (fun ls hl => ?_)
    refine lv_iconst (v := 1) hx hb dX7_most_12 (by decide) ?_
    refine lv_istore_n (lv' := [(2, .int (1 : Int32)), (1, .int (0 : Int32)), (0, .ref (q 0))]) hx hb dX7_most_13 rfl hl (by decide) rfl (fun ls hl => ?_)
    exact w_X7_most_14 g q X FU σ (0 : Int32) (1 : Int32) hD _ _ _ I (lv_sub hl [2, 1, 0] rfl)
  · have hD := ite_p hc3 hD
    refine lv_bipush (v := -3) hx hb dX7_most_7 (by decide) ?_
    exact r_iret2 X I hD dX7_most_9

/-! YearDeckModel.reading(III)I -/
def D_X7_reading (σ : St) (p1 : Int32) (p2 : Int32) (p3 : Int32) : Option (Int32 × St) := (D_X7_noRider σ p1).bind fun y3 => if y3 = 0 then (D_X7_noSetOf σ p1 p2).bind fun y8 => if y8 = 0 then (D_X7_in σ p3.toInt64 (0 : Int64) (199 : Int64)).bind fun y16 => if y16 = 0 then some ((-2 : Int32), σ) else if (σ 0 22) = (8 : Int32) then some ((-4 : Int32), σ) else gd (inb (σ 0 22) 8) (gd (inb ((up2 σ 15 (σ 0 22).toNatClampNeg p1) 0 22) 8) (gd (inb ((up2 (up2 σ 15 (σ 0 22).toNatClampNeg p1) 16 ((up2 σ 15 (σ 0 22).toNatClampNeg p1) 0 22).toNatClampNeg p2) 0 22) 8) (some (((up2 (up2 (up2 (up2 σ 15 (σ 0 22).toNatClampNeg p1) 16 ((up2 σ 15 (σ 0 22).toNatClampNeg p1) 0 22).toNatClampNeg p2) 17 ((up2 (up2 σ 15 (σ 0 22).toNatClampNeg p1) 16 ((up2 σ 15 (σ 0 22).toNatClampNeg p1) 0 22).toNatClampNeg p2) 0 22).toNatClampNeg p3) 0 22 (((up2 (up2 (up2 σ 15 (σ 0 22).toNatClampNeg p1) 16 ((up2 σ 15 (σ 0 22).toNatClampNeg p1) 0 22).toNatClampNeg p2) 17 ((up2 (up2 σ 15 (σ 0 22).toNatClampNeg p1) 16 ((up2 σ 15 (σ 0 22).toNatClampNeg p1) 0 22).toNatClampNeg p2) 0 22).toNatClampNeg p3) 0 22) + (1 : Int32))) 0 22) - (1 : Int32), up2 (up2 (up2 (up2 σ 15 (σ 0 22).toNatClampNeg p1) 16 ((up2 σ 15 (σ 0 22).toNatClampNeg p1) 0 22).toNatClampNeg p2) 17 ((up2 (up2 σ 15 (σ 0 22).toNatClampNeg p1) 16 ((up2 σ 15 (σ 0 22).toNatClampNeg p1) 0 22).toNatClampNeg p2) 0 22).toNatClampNeg p3) 0 22 (((up2 (up2 (up2 σ 15 (σ 0 22).toNatClampNeg p1) 16 ((up2 σ 15 (σ 0 22).toNatClampNeg p1) 0 22).toNatClampNeg p2) 17 ((up2 (up2 σ 15 (σ 0 22).toNatClampNeg p1) 16 ((up2 σ 15 (σ 0 22).toNatClampNeg p1) 0 22).toNatClampNeg p2) 0 22).toNatClampNeg p3) 0 22) + (1 : Int32)))))) else some ((-2 : Int32), σ) else some ((-1 : Int32), σ)
set_option maxRecDepth 100000 in
set_option maxHeartbeats 4000000 in
theorem c_X7_reading (l : Launch) (g : Gh) (q : Nat → Nat) (sz : Nat) (σ : St) (p1 : Int32) (p2 : Int32) (p3 : Int32) {rr : (Int32 × St)} (hD : D_X7_reading σ p1 p2 p3 = some rr) : Met l yX7_reading (wU yX7_reading cX7_reading 4 (some .int)) (rmD 2) (PQ g (eM g q) q 22 σ sz [.ref (q 0), .int p1, .int p2, .int p3]) (QI g (eM g q) q 22 rr.1 rr.2 sz) 0 0 (AQ q 22 sz) := by
  refine met_of (Qc := QI g (eM g q) q 22 rr.1 rr.2) (by decide) (Nat.le_of_ble_eq_true rfl) ?_
  intro p e s m below meth c ls X I hl
  have hx := X.1
  have hb := X.2.1
  have hl : lv_has ls 4 [(0, .ref (q 0)), (1, .int p1), (2, .int p2), (3, .int p3)] := hl
  unfold D_X7_reading at hD
  refine lv_aload_n hx hb dX7_reading_0 rfl (lv_at hl 0 rfl) ?_
  refine lv_iload_n hx hb dX7_reading_1 rfl (lv_at hl 1 rfl) ?_
  obtain ⟨y3, hy3, hD⟩ := bd_s hD
  refine r_calli (r_runV (As := [.int p1]) (rest := []) X I (c_X7_noRider l g q _ σ p1 hy3) kv_X7_noRider ml_X7_158 rfl (by decide) (eM_Model g q _) ⟨Nat.le_of_ble_eq_true rfl, Nat.le_of_ble_eq_true rfl⟩ ⟨Nat.zero_le _, Nat.zero_le _⟩ rfl rfl hl.1 (Nat.le_of_ble_eq_true rfl) dX7_reading_2) I (fun H locs I => ?_)
  refine lv_if_eq (tgt := 10) hx hb dX7_reading_5 (by decide) (fun hc4 => ?_) (fun hc4 => ?_)
  · have hD := ite_p hc4 hD
    refine lv_aload_n hx hb dX7_reading_10 rfl (lv_at hl 0 rfl) ?_
    refine lv_iload_n hx hb dX7_reading_11 rfl (lv_at hl 1 rfl) ?_
    refine lv_iload_n hx hb dX7_reading_12 rfl (lv_at hl 2 rfl) ?_
    obtain ⟨y8, hy8, hD⟩ := bd_s hD
    refine r_calli (r_runV (As := [.int p1, .int p2]) (rest := []) X I (c_X7_noSetOf l g q _ σ p1 p2 hy8) kv_X7_noSetOf ml_X7_174 rfl (by decide) (eM_Model g q _) ⟨Nat.le_of_ble_eq_true rfl, Nat.le_of_ble_eq_true rfl⟩ ⟨Nat.zero_le _, Nat.zero_le _⟩ rfl rfl hl.1 (Nat.le_of_ble_eq_true rfl) dX7_reading_13) I (fun H locs I => ?_)
    refine lv_if_ne (tgt := 31) hx hb dX7_reading_16 (by decide) (fun hc9 => ?_) (fun hc9 => ?_)
    · have hD := ite_n hc9 hD
      refine lv_bipush (v := -2) hx hb dX7_reading_31 (by decide) ?_
      exact r_iret2 X I hD dX7_reading_33
    · have hD := ite_p hc9 hD
      refine lv_iload_n hx hb dX7_reading_19 rfl (lv_at hl 3 rfl) ?_
      refine lv_i2l hx hb dX7_reading_20 rfl ?_
      refine lv_lconst (v := 0) hx hb dX7_reading_21 rfl ?_
      refine lv_ldc2 (v := 199) hx hb X.2.2.2.2.1 (X.2.2.2.2.2.1 _ cl_X7_200) dX7_reading_22 ?_
      obtain ⟨y16, hy16, hD⟩ := bd_s hD
      refine r_calli (r_runS (As := [.long p3.toInt64, .long (0 : Int64), .long (199 : Int64)]) (rest := []) X I (c_X7_in l g q _ σ p3.toInt64 (0 : Int64) (199 : Int64) hy16) ks_X7_in ml_X7_87 ⟨Nat.le_of_ble_eq_true rfl, Nat.le_of_ble_eq_true rfl⟩ ⟨Nat.zero_le _, Nat.zero_le _⟩ rfl rfl hl.1 (Nat.le_of_ble_eq_true rfl) dX7_reading_25) I (fun H locs I => ?_)
      refine lv_if_ne (tgt := 34) hx hb dX7_reading_28 (by decide) (fun hc17 => ?_) (fun hc17 => ?_)
      · have hD := ite_n hc17 hD
        refine lv_aload_n hx hb dX7_reading_34 rfl (lv_at hl 0 rfl) ?_
        refine g_Model_readings X I fl_X7_155 dX7_reading_35 ?_
        refine lv_bipush (v := 8) hx hb dX7_reading_38 (by decide) ?_
        refine lv_icmp_ne (tgt := 46) hx hb dX7_reading_40 (by decide) (fun hc21 => ?_) (fun hc21 => ?_)
        · have hD := ite_n hc21 hD
          refine lv_aload_n hx hb dX7_reading_46 rfl (lv_at hl 0 rfl) ?_
          refine g_Model_readingOf X I fl_X7_53 dX7_reading_47 ?_
          refine lv_aload_n hx hb dX7_reading_50 rfl (lv_at hl 0 rfl) ?_
          refine g_Model_readings X I fl_X7_155 dX7_reading_51 ?_
          refine lv_iload_n hx hb dX7_reading_54 rfl (lv_at hl 1 rfl) ?_
          obtain ⟨hg27, hD⟩ := gd_s hD
          refine r_iast (eM_loc g q) X I (by decide) (eMa_15 g q) hg27 dX7_reading_55 (fun H locs I => ?_)
          refine lv_aload_n hx hb dX7_reading_56 rfl (lv_at hl 0 rfl) ?_
          refine g_Model_readingBy X I fl_X7_56 dX7_reading_57 ?_
          refine lv_aload_n hx hb dX7_reading_60 rfl (lv_at hl 0 rfl) ?_
          refine g_Model_readings X I fl_X7_155 dX7_reading_61 ?_
          refine lv_iload_n hx hb dX7_reading_64 rfl (lv_at hl 2 rfl) ?_
          obtain ⟨hg33, hD⟩ := gd_s hD
          refine r_iast (eM_loc g q) X I (by decide) (eMa_16 g q) hg33 dX7_reading_65 (fun H locs I => ?_)
          refine lv_aload_n hx hb dX7_reading_66 rfl (lv_at hl 0 rfl) ?_
          refine g_Model_readingWas X I fl_X7_59 dX7_reading_67 ?_
          refine lv_aload_n hx hb dX7_reading_70 rfl (lv_at hl 0 rfl) ?_
          refine g_Model_readings X I fl_X7_155 dX7_reading_71 ?_
          refine lv_iload_n hx hb dX7_reading_74 rfl (lv_at hl 3 rfl) ?_
          obtain ⟨hg39, hD⟩ := gd_s hD
          refine r_iast (eM_loc g q) X I (by decide) (eMa_17 g q) hg39 dX7_reading_75 (fun H locs I => ?_)
          refine lv_aload_n hx hb dX7_reading_76 rfl (lv_at hl 0 rfl) ?_
          refine lv_dup hx hb dX7_reading_77 rfl ?_
          refine g_Model_readings X I fl_X7_155 dX7_reading_78 ?_
          refine lv_iconst (v := 1) hx hb dX7_reading_81 (by decide) ?_
          refine lv_iadd hx hb dX7_reading_82 ?_
          refine p_Model_readings X I fl_X7_155 dX7_reading_83 (fun H locs I => ?_)
          refine lv_aload_n hx hb dX7_reading_86 rfl (lv_at hl 0 rfl) ?_
          refine g_Model_readings X I fl_X7_155 dX7_reading_87 ?_
          refine lv_iconst (v := 1) hx hb dX7_reading_90 (by decide) ?_
          refine lv_isub hx hb dX7_reading_91 ?_
          exact r_iret2 X I hD dX7_reading_92
        · have hD := ite_p hc21 hD
          refine lv_bipush (v := -4) hx hb dX7_reading_43 (by decide) ?_
          exact r_iret2 X I hD dX7_reading_45
      · have hD := ite_p hc17 hD
        refine lv_bipush (v := -2) hx hb dX7_reading_31 (by decide) ?_
        exact r_iret2 X I hD dX7_reading_33
  · have hD := ite_n hc4 hD
    refine lv_iconst (v := -1) hx hb dX7_reading_8 (by decide) ?_
    exact r_iret2 X I hD dX7_reading_9

/-! YearDeckModel.back(I)I -/
def D_X7_back (σ : St) (p1 : Int32) : Option (Int32 × St) := (D_X7_in σ p1.toInt64 (0 : Int64) ((σ 0 22).toInt64)).bind fun y7 => if y7 = 0 then some ((-2 : Int32), σ) else some ((up2 σ 0 22 ((σ 0 22) - p1)) 0 22, up2 σ 0 22 ((σ 0 22) - p1))
set_option maxRecDepth 100000 in
set_option maxHeartbeats 4000000 in
theorem c_X7_back (l : Launch) (g : Gh) (q : Nat → Nat) (sz : Nat) (σ : St) (p1 : Int32) {rr : (Int32 × St)} (hD : D_X7_back σ p1 = some rr) : Met l yX7_back (wU yX7_back cX7_back 2 (some .int)) (rmD 1) (PQ g (eM g q) q 22 σ sz [.ref (q 0), .int p1]) (QI g (eM g q) q 22 rr.1 rr.2 sz) 0 0 (AQ q 22 sz) := by
  refine met_of (Qc := QI g (eM g q) q 22 rr.1 rr.2) (by decide) (Nat.le_of_ble_eq_true rfl) ?_
  intro p e s m below meth c ls X I hl
  have hx := X.1
  have hb := X.2.1
  have hl : lv_has ls 2 [(0, .ref (q 0)), (1, .int p1)] := hl
  unfold D_X7_back at hD
  refine lv_iload_n hx hb dX7_back_0 rfl (lv_at hl 1 rfl) ?_
  refine lv_i2l hx hb dX7_back_1 rfl ?_
  refine lv_lconst (v := 0) hx hb dX7_back_2 rfl ?_
  refine lv_aload_n hx hb dX7_back_3 rfl (lv_at hl 0 rfl) ?_
  refine g_Model_readings X I fl_X7_155 dX7_back_4 ?_
  refine lv_i2l hx hb dX7_back_7 rfl ?_
  obtain ⟨y7, hy7, hD⟩ := bd_s hD
  refine r_calli (r_runS (As := [.long p1.toInt64, .long (0 : Int64), .long ((σ 0 22).toInt64)]) (rest := []) X I (c_X7_in l g q _ σ p1.toInt64 (0 : Int64) ((σ 0 22).toInt64) hy7) ks_X7_in ml_X7_87 ⟨Nat.le_of_ble_eq_true rfl, Nat.le_of_ble_eq_true rfl⟩ ⟨Nat.zero_le _, Nat.zero_le _⟩ rfl rfl hl.1 (Nat.le_of_ble_eq_true rfl) dX7_back_8) I (fun H locs I => ?_)
  refine lv_if_ne (tgt := 17) hx hb dX7_back_11 (by decide) (fun hc8 => ?_) (fun hc8 => ?_)
  · have hD := ite_n hc8 hD
    refine lv_aload_n hx hb dX7_back_17 rfl (lv_at hl 0 rfl) ?_
    refine lv_dup hx hb dX7_back_18 rfl ?_
    refine g_Model_readings X I fl_X7_155 dX7_back_19 ?_
    refine lv_iload_n hx hb dX7_back_22 rfl (lv_at hl 1 rfl) ?_
    refine lv_isub hx hb dX7_back_23 ?_
    refine p_Model_readings X I fl_X7_155 dX7_back_24 (fun H locs I => ?_)
    refine lv_aload_n hx hb dX7_back_27 rfl (lv_at hl 0 rfl) ?_
    refine g_Model_readings X I fl_X7_155 dX7_back_28 ?_
    exact r_iret2 X I hD dX7_back_31
  · have hD := ite_p hc8 hD
    refine lv_bipush (v := -2) hx hb dX7_back_14 (by decide) ?_
    exact r_iret2 X I hD dX7_back_16

/-! YearDeckModel.areSo()Z -/
def D_X7_areSo_46 (σ : St) (rc4 : Int32 → Int32 → Option Int32) (v2 : Int32) (t0 : Int32) : Option Int32 := rc4 t0 (v2 + (1 : Int32))
set_option maxRecDepth 100000 in
set_option maxHeartbeats 4000000 in
theorem w_X7_areSo_46 {p : Program} {l : Launch} {e : Env} {s : State} {m : MethodId} {args : Array Value} {below : List Frame} {meth : Method} {c : Code} (g : Gh) (q : Nat → Nat) (X : MX p s m args meth c cX7_areSo 3 (some .boolean) RX7) {rr : Int32} (σ : St)  (v2 : Int32) (t0 : Int32) (rc4 : Int32 → Int32 → Option Int32) (hrc4 : ∀ (v1' : Int32) (v2' : Int32), rc4 v1' v2' = some rr → ∀ (H : Heap) (locs : List Loc) (ls : Array Slot), IM g q s σ H locs → lv_has ls 3 [(0, .ref (q 0)), (1, .int v1'), (2, .int v2')] → W p l e (rmD 2) s m args below meth c H locs 0 0 (MQ below (QI g (eM g q) q 22 rr σ s.heap.size) args s 0 0 (AQ q 22 s.heap.size)) (F0 m 4 ls [])) (hD : D_X7_areSo_46 σ rc4 v2 t0 = some rr) (H : Heap) (locs : List Loc) (ls : Array Slot) (I : IM g q s σ H locs) (hl : lv_has ls 3 [(0, .ref (q 0)), (2, .int v2)]) : W p l e (rmD 2) s m args below meth c H locs 0 0 (MQ below (QI g (eM g q) q 22 rr σ s.heap.size) args s 0 0 (AQ q 22 s.heap.size)) (F0 m 46 ls [.int t0]) := by
  have hx := X.1
  have hb := X.2.1
  unfold D_X7_areSo_46 at hD
  refine lv_istore_n (lv' := [(1, .int t0), (0, .ref (q 0)), (2, .int v2)]) hx hb dX7_areSo_46 rfl hl (by decide) rfl (fun ls hl => ?_)
  refine lv_iinc (v := v2 + (1 : Int32)) (lv' := [(2, .int (v2 + (1 : Int32))), (1, .int t0), (0, .ref (q 0))]) hx hb dX7_areSo_47 hl (k := 2) rfl rfl (by decide) rfl (fun ls hl => ?_)
  refine lv_goto (tgt := 4) hx hb dX7_areSo_50 (by decide) ?_
  exact hrc4 t0 (v2 + (1 : Int32)) hD _ _ _ I (lv_sub hl [2, 1, 0] rfl)
def D_X7_areSo_45 (σ : St) (rc4 : Int32 → Int32 → Option Int32) (v2 : Int32) : Option Int32 := D_X7_areSo_46 σ rc4 v2 (0 : Int32)
set_option maxRecDepth 100000 in
set_option maxHeartbeats 4000000 in
theorem w_X7_areSo_45 {p : Program} {l : Launch} {e : Env} {s : State} {m : MethodId} {args : Array Value} {below : List Frame} {meth : Method} {c : Code} (g : Gh) (q : Nat → Nat) (X : MX p s m args meth c cX7_areSo 3 (some .boolean) RX7) {rr : Int32} (σ : St)  (v2 : Int32) (rc4 : Int32 → Int32 → Option Int32) (hrc4 : ∀ (v1' : Int32) (v2' : Int32), rc4 v1' v2' = some rr → ∀ (H : Heap) (locs : List Loc) (ls : Array Slot), IM g q s σ H locs → lv_has ls 3 [(0, .ref (q 0)), (1, .int v1'), (2, .int v2')] → W p l e (rmD 2) s m args below meth c H locs 0 0 (MQ below (QI g (eM g q) q 22 rr σ s.heap.size) args s 0 0 (AQ q 22 s.heap.size)) (F0 m 4 ls [])) (hD : D_X7_areSo_45 σ rc4 v2 = some rr) (H : Heap) (locs : List Loc) (ls : Array Slot) (I : IM g q s σ H locs) (hl : lv_has ls 3 [(0, .ref (q 0)), (2, .int v2)]) : W p l e (rmD 2) s m args below meth c H locs 0 0 (MQ below (QI g (eM g q) q 22 rr σ s.heap.size) args s 0 0 (AQ q 22 s.heap.size)) (F0 m 45 ls []) := by
  have hx := X.1
  have hb := X.2.1
  unfold D_X7_areSo_45 at hD
  refine lv_iconst (v := 0) hx hb dX7_areSo_45 (by decide) ?_
  exact w_X7_areSo_46 g q X σ v2 (0 : Int32) rc4 hrc4 hD _ _ _ I (lv_sub hl [0, 1] rfl)
def D_X7_areSo_4b (σ : St) (rc4 : Int32 → Int32 → Option Int32) (v1 : Int32) (v2 : Int32) : Option Int32 := if (σ 0 22) ≤ v2 then gd (isB v1) (some v1) else if v1 = 0 then D_X7_areSo_45 σ rc4 v2 else gd (inb v2 8) (gd (inb v2 8) ((D_X7_ageBy σ (σ 15 v2.toNatClampNeg) (σ 16 v2.toNatClampNeg)).bind fun y22 => gd (inb v2 8) (if y22 = (σ 17 v2.toNatClampNeg) then D_X7_areSo_46 σ rc4 v2 (1 : Int32) else D_X7_areSo_45 σ rc4 v2)))
set_option maxRecDepth 100000 in
set_option maxHeartbeats 4000000 in
theorem w_X7_areSo_4b {p : Program} {l : Launch} {e : Env} {s : State} {m : MethodId} {args : Array Value} {below : List Frame} {meth : Method} {c : Code} (g : Gh) (q : Nat → Nat) (X : MX p s m args meth c cX7_areSo 3 (some .boolean) RX7) {rr : Int32} (σ : St)  (v1 : Int32) (v2 : Int32) (rc4 : Int32 → Int32 → Option Int32) (hrc4 : ∀ (v1' : Int32) (v2' : Int32), rc4 v1' v2' = some rr → ∀ (H : Heap) (locs : List Loc) (ls : Array Slot), IM g q s σ H locs → lv_has ls 3 [(0, .ref (q 0)), (1, .int v1'), (2, .int v2')] → W p l e (rmD 2) s m args below meth c H locs 0 0 (MQ below (QI g (eM g q) q 22 rr σ s.heap.size) args s 0 0 (AQ q 22 s.heap.size)) (F0 m 4 ls [])) (hD : D_X7_areSo_4b σ rc4 v1 v2 = some rr) (H : Heap) (locs : List Loc) (ls : Array Slot) (I : IM g q s σ H locs) (hl : lv_has ls 3 [(0, .ref (q 0)), (1, .int v1), (2, .int v2)]) : W p l e (rmD 2) s m args below meth c H locs 0 0 (MQ below (QI g (eM g q) q 22 rr σ s.heap.size) args s 0 0 (AQ q 22 s.heap.size)) (F0 m 4 ls []) := by
  have hx := X.1
  have hb := X.2.1
  unfold D_X7_areSo_4b at hD
  refine lv_iload_n hx hb dX7_areSo_4 rfl (lv_at hl 2 rfl) ?_
  refine lv_aload_n hx hb dX7_areSo_5 rfl (lv_at hl 0 rfl) ?_
  refine g_Model_readings X I fl_X7_155 dX7_areSo_6 ?_
  refine lv_icmp_ge (tgt := 53) hx hb dX7_areSo_9 (by decide) (fun hc8 => ?_) (fun hc8 => ?_)
  · have hD := ite_p hc8 hD
    refine lv_iload_n hx hb dX7_areSo_53 rfl (lv_at hl 1 rfl) ?_
    obtain ⟨hg10, hD⟩ := gd_s hD
    exact r_zret X I hD hg10 dX7_areSo_54
  · have hD := ite_n hc8 hD
    refine lv_iload_n hx hb dX7_areSo_12 rfl (lv_at hl 1 rfl) ?_
    refine lv_if_eq (tgt := 45) hx hb dX7_areSo_13 (by decide) (fun hc12 => ?_) (fun hc12 => ?_)
    · have hD := ite_p hc12 hD
      exact w_X7_areSo_45 g q X σ v2 rc4 hrc4 hD _ _ _ I (lv_sub hl [0, 2] rfl)
    · have hD := ite_n hc12 hD
      refine lv_aload_n hx hb dX7_areSo_16 rfl (lv_at hl 0 rfl) ?_
      refine lv_aload_n hx hb dX7_areSo_17 rfl (lv_at hl 0 rfl) ?_
      refine g_Model_readingOf X I fl_X7_53 dX7_areSo_18 ?_
      refine lv_iload_n hx hb dX7_areSo_21 rfl (lv_at hl 2 rfl) ?_
      obtain ⟨hg17, hD⟩ := gd_s hD
      refine r_iald X I (by decide) ((eMa_15 g q) _) hg17 dX7_areSo_22 ?_
      refine lv_aload_n hx hb dX7_areSo_23 rfl (lv_at hl 0 rfl) ?_
      refine g_Model_readingBy X I fl_X7_56 dX7_areSo_24 ?_
      refine lv_iload_n hx hb dX7_areSo_27 rfl (lv_at hl 2 rfl) ?_
      obtain ⟨hg21, hD⟩ := gd_s hD
      refine r_iald X I (by decide) ((eMa_16 g q) _) hg21 dX7_areSo_28 ?_
      obtain ⟨y22, hy22, hD⟩ := bd_s hD
      refine r_calli (r_runV (As := [.int (σ 15 v2.toNatClampNeg), .int (σ 16 v2.toNatClampNeg)]) (rest := []) X I (c_X7_ageBy l g q _ σ (σ 15 v2.toNatClampNeg) (σ 16 v2.toNatClampNeg) hy22) kv_X7_ageBy ml_X7_177 rfl (by decide) (eM_Model g q _) ⟨Nat.le_of_ble_eq_true rfl, Nat.le_of_ble_eq_true rfl⟩ ⟨Nat.zero_le _, Nat.zero_le _⟩ rfl rfl hl.1 (Nat.le_of_ble_eq_true rfl) dX7_areSo_29) I (fun H locs I => ?_)
      refine lv_aload_n hx hb dX7_areSo_32 rfl (lv_at hl 0 rfl) ?_
      refine g_Model_readingWas X I fl_X7_59 dX7_areSo_33 ?_
      refine lv_iload_n hx hb dX7_areSo_36 rfl (lv_at hl 2 rfl) ?_
      obtain ⟨hg26, hD⟩ := gd_s hD
      refine r_iald X I (by decide) ((eMa_17 g q) _) hg26 dX7_areSo_37 ?_
      refine lv_icmp_ne (tgt := 45) hx hb dX7_areSo_38 (by decide) (fun hc27 => ?_) (fun hc27 => ?_)
      · have hD := ite_n hc27 hD
        exact w_X7_areSo_45 g q X σ v2 rc4 hrc4 hD _ _ _ I (lv_sub hl [0, 2] rfl)
      · have hD := ite_p hc27 hD
        refine lv_iconst (v := 1) hx hb dX7_areSo_41 (by decide) ?_
        refine lv_goto (tgt := 46) hx hb dX7_areSo_42 (by decide) ?_
        exact w_X7_areSo_46 g q X σ v2 (1 : Int32) rc4 hrc4 hD _ _ _ I (lv_sub hl [0, 2] rfl)
def D_X7_areSo_4 (σ : St) : Nat → Int32 → Int32 → Option Int32
  | 0 => fun _ _ => none
  | n + 1 => fun v1 v2 => D_X7_areSo_4b σ (D_X7_areSo_4 σ n) v1 v2
set_option maxRecDepth 100000 in
set_option maxHeartbeats 4000000 in
theorem w_X7_areSo_4 {p : Program} {l : Launch} {e : Env} {s : State} {m : MethodId} {args : Array Value} {below : List Frame} {meth : Method} {c : Code} (g : Gh) (q : Nat → Nat) (X : MX p s m args meth c cX7_areSo 3 (some .boolean) RX7) {rr : Int32} (σ : St)  : ∀ (n : Nat) (v1 : Int32) (v2 : Int32), D_X7_areSo_4 σ n v1 v2 = some rr → ∀ (H : Heap) (locs : List Loc) (ls : Array Slot), IM g q s σ H locs → lv_has ls 3 [(0, .ref (q 0)), (1, .int v1), (2, .int v2)] → W p l e (rmD 2) s m args below meth c H locs 0 0 (MQ below (QI g (eM g q) q 22 rr σ s.heap.size) args s 0 0 (AQ q 22 s.heap.size)) (F0 m 4 ls []) := by
  intro n
  induction n with
  | zero =>
    intro v1 v2 hD H locs ls I hl
    cases hD
  | succ n ih =>
    intro v1 v2 hD H locs ls I hl
    exact w_X7_areSo_4b g q X σ v1 v2 _ ih hD H locs ls I hl
def D_X7_areSo (σ : St) : Option Int32 := D_X7_areSo_4 σ FU (1 : Int32) (0 : Int32)
set_option maxRecDepth 100000 in
set_option maxHeartbeats 4000000 in
theorem c_X7_areSo (l : Launch) (g : Gh) (q : Nat → Nat) (sz : Nat) (σ : St) {rr : Int32} (hD : D_X7_areSo σ = some rr) : Met l yX7_areSo (wU yX7_areSo cX7_areSo 3 (some .boolean)) (rmD 2) (PQ g (eM g q) q 22 σ sz [.ref (q 0)]) (QI g (eM g q) q 22 rr σ sz) 0 0 (AQ q 22 sz) := by
  refine met_of (Qc := QI g (eM g q) q 22 rr σ) (by decide) (Nat.le_of_ble_eq_true rfl) ?_
  intro p e s m below meth c ls X I hl
  have hx := X.1
  have hb := X.2.1
  have hl : lv_has ls 3 [(0, .ref (q 0))] := hl
  unfold D_X7_areSo at hD
  refine lv_iconst (v := 1) hx hb dX7_areSo_0 (by decide) ?_
  refine lv_istore_n (lv' := [(1, .int (1 : Int32)), (0, .ref (q 0))]) hx hb dX7_areSo_1 rfl hl (by decide) rfl (fun ls hl => ?_)
  refine lv_iconst (v := 0) hx hb dX7_areSo_2 (by decide) ?_
  refine lv_istore_n (lv' := [(2, .int (0 : Int32)), (1, .int (1 : Int32)), (0, .ref (q 0))]) hx hb dX7_areSo_3 rfl hl (by decide) rfl (fun ls hl => ?_)
  exact w_X7_areSo_4 g q X σ FU (1 : Int32) (0 : Int32) hD _ _ _ I (lv_sub hl [2, 1, 0] rfl)

/-! YearDeckModel.slopes(I)I -/
def D_X7_slopes_60 (σ : St) (v1 : Int32) (v2 : Int32) (v3 : Int32) : Option (Int32 × St) := gd (inb v1 5) (some (v3, up2 σ 1 v1.toNatClampNeg v2))
set_option maxRecDepth 100000 in
set_option maxHeartbeats 4000000 in
theorem w_X7_slopes_60 {p : Program} {l : Launch} {e : Env} {s : State} {m : MethodId} {args : Array Value} {below : List Frame} {meth : Method} {c : Code} (g : Gh) (q : Nat → Nat) (X : MX p s m args meth c cX7_slopes 5 (some .int) RX7) {rr : (Int32 × St)} (σ : St)  (v1 : Int32) (v2 : Int32) (v3 : Int32) (hD : D_X7_slopes_60 σ v1 v2 v3 = some rr) (H : Heap) (locs : List Loc) (ls : Array Slot) (I : IM g q s σ H locs) (hl : lv_has ls 5 [(0, .ref (q 0)), (1, .int v1), (2, .int v2), (3, .int v3)]) : W p l e (rmD 3) s m args below meth c H locs 0 0 (MQ below (QI g (eM g q) q 22 rr.1 rr.2 s.heap.size) args s 0 0 (AQ q 22 s.heap.size)) (F0 m 60 ls []) := by
  have hx := X.1
  have hb := X.2.1
  unfold D_X7_slopes_60 at hD
  refine lv_aload_n hx hb dX7_slopes_60 rfl (lv_at hl 0 rfl) ?_
  refine g_Model_slopeOf X I fl_X7_7 dX7_slopes_61 ?_
  refine lv_iload_n hx hb dX7_slopes_64 rfl (lv_at hl 1 rfl) ?_
  refine lv_iload_n hx hb dX7_slopes_65 rfl (lv_at hl 2 rfl) ?_
  obtain ⟨hg37, hD⟩ := gd_s hD
  refine r_iast (eM_loc g q) X I (by decide) (eMa_1 g q) hg37 dX7_slopes_66 (fun H locs I => ?_)
  refine lv_iload_n hx hb dX7_slopes_67 rfl (lv_at hl 3 rfl) ?_
  exact r_iret2 X I hD dX7_slopes_68
def D_X7_slopes_52 (σ : St) (rc22 : St → Int32 → Int32 → Option (Int32 × St)) (v1 : Int32) (v2 : Int32) (v4 : Int32) (t0 : Int32) (t1 : Int32) : Option (Int32 × St) := rc22 σ (t1 ||| t0) (v4 + (1 : Int32))
set_option maxRecDepth 100000 in
set_option maxHeartbeats 4000000 in
theorem w_X7_slopes_52 {p : Program} {l : Launch} {e : Env} {s : State} {m : MethodId} {args : Array Value} {below : List Frame} {meth : Method} {c : Code} (g : Gh) (q : Nat → Nat) (X : MX p s m args meth c cX7_slopes 5 (some .int) RX7) {rr : (Int32 × St)} (σ : St)  (v1 : Int32) (v2 : Int32) (v4 : Int32) (t0 : Int32) (t1 : Int32) (rc22 : St → Int32 → Int32 → Option (Int32 × St)) (hrc22 : ∀ (σ' : St) (v3' : Int32) (v4' : Int32), rc22 σ' v3' v4' = some rr → ∀ (H : Heap) (locs : List Loc) (ls : Array Slot), IM g q s σ' H locs → lv_has ls 5 [(0, .ref (q 0)), (1, .int v1), (2, .int v2), (3, .int v3'), (4, .int v4')] → W p l e (rmD 3) s m args below meth c H locs 0 0 (MQ below (QI g (eM g q) q 22 rr.1 rr.2 s.heap.size) args s 0 0 (AQ q 22 s.heap.size)) (F0 m 22 ls [])) (hD : D_X7_slopes_52 σ rc22 v1 v2 v4 t0 t1 = some rr) (H : Heap) (locs : List Loc) (ls : Array Slot) (I : IM g q s σ H locs) (hl : lv_has ls 5 [(0, .ref (q 0)), (1, .int v1), (2, .int v2), (4, .int v4)]) : W p l e (rmD 3) s m args below meth c H locs 0 0 (MQ below (QI g (eM g q) q 22 rr.1 rr.2 s.heap.size) args s 0 0 (AQ q 22 s.heap.size)) (F0 m 52 ls [.int t0, .int t1]) := by
  have hx := X.1
  have hb := X.2.1
  unfold D_X7_slopes_52 at hD
  refine lv_ior hx hb dX7_slopes_52 ?_
  refine lv_istore_n (lv' := [(3, .int (t1 ||| t0)), (0, .ref (q 0)), (1, .int v1), (2, .int v2), (4, .int v4)]) hx hb dX7_slopes_53 rfl hl (by decide) rfl (fun ls hl => ?_)
  refine lv_iinc (v := v4 + (1 : Int32)) (lv' := [(4, .int (v4 + (1 : Int32))), (3, .int (t1 ||| t0)), (0, .ref (q 0)), (1, .int v1), (2, .int v2)]) hx hb dX7_slopes_54 hl (k := 4) rfl rfl (by decide) rfl (fun ls hl => ?_)
  refine lv_goto (tgt := 22) hx hb dX7_slopes_57 (by decide) ?_
  exact hrc22 σ (t1 ||| t0) (v4 + (1 : Int32)) hD _ _ _ I (lv_sub hl [2, 3, 4, 1, 0] rfl)
def D_X7_slopes_22b (σ : St) (rc22 : St → Int32 → Int32 → Option (Int32 × St)) (v1 : Int32) (v2 : Int32) (v3 : Int32) (v4 : Int32) : Option (Int32 × St) := if (4 : Int32) ≤ v4 then D_X7_slopes_60 σ v1 v2 v3 else gd (inb v1 5) ((D_X7_areSo (up2 σ 1 v1.toNatClampNeg v4)).bind fun y26 => if y26 = 0 then D_X7_slopes_52 (up2 σ 1 v1.toNatClampNeg v4) rc22 v1 v2 v4 (0 : Int32) v3 else D_X7_slopes_52 (up2 σ 1 v1.toNatClampNeg v4) rc22 v1 v2 v4 ((1 : Int32) <<< (v4 &&& 31)) v3)
set_option maxRecDepth 100000 in
set_option maxHeartbeats 4000000 in
theorem w_X7_slopes_22b {p : Program} {l : Launch} {e : Env} {s : State} {m : MethodId} {args : Array Value} {below : List Frame} {meth : Method} {c : Code} (g : Gh) (q : Nat → Nat) (X : MX p s m args meth c cX7_slopes 5 (some .int) RX7) {rr : (Int32 × St)} (σ : St)  (v1 : Int32) (v2 : Int32) (v3 : Int32) (v4 : Int32) (rc22 : St → Int32 → Int32 → Option (Int32 × St)) (hrc22 : ∀ (σ' : St) (v3' : Int32) (v4' : Int32), rc22 σ' v3' v4' = some rr → ∀ (H : Heap) (locs : List Loc) (ls : Array Slot), IM g q s σ' H locs → lv_has ls 5 [(0, .ref (q 0)), (1, .int v1), (2, .int v2), (3, .int v3'), (4, .int v4')] → W p l e (rmD 3) s m args below meth c H locs 0 0 (MQ below (QI g (eM g q) q 22 rr.1 rr.2 s.heap.size) args s 0 0 (AQ q 22 s.heap.size)) (F0 m 22 ls [])) (hD : D_X7_slopes_22b σ rc22 v1 v2 v3 v4 = some rr) (H : Heap) (locs : List Loc) (ls : Array Slot) (I : IM g q s σ H locs) (hl : lv_has ls 5 [(0, .ref (q 0)), (1, .int v1), (2, .int v2), (3, .int v3), (4, .int v4)]) : W p l e (rmD 3) s m args below meth c H locs 0 0 (MQ below (QI g (eM g q) q 22 rr.1 rr.2 s.heap.size) args s 0 0 (AQ q 22 s.heap.size)) (F0 m 22 ls []) := by
  have hx := X.1
  have hb := X.2.1
  unfold D_X7_slopes_22b at hD
  refine lv_iload hx hb dX7_slopes_22 (lv_at hl 4 rfl) ?_
  refine lv_iconst (v := 4) hx hb dX7_slopes_24 (by decide) ?_
  refine lv_icmp_ge (tgt := 60) hx hb dX7_slopes_25 (by decide) (fun hc18 => ?_) (fun hc18 => ?_)
  · have hD := ite_p hc18 hD
    exact w_X7_slopes_60 g q X σ v1 v2 v3 hD _ _ _ I (lv_sub hl [0, 1, 2, 3] rfl)
  · have hD := ite_n hc18 hD
    refine lv_aload_n hx hb dX7_slopes_28 rfl (lv_at hl 0 rfl) ?_
    refine g_Model_slopeOf X I fl_X7_7 dX7_slopes_29 ?_
    refine lv_iload_n hx hb dX7_slopes_32 rfl (lv_at hl 1 rfl) ?_
    refine lv_iload hx hb dX7_slopes_33 (lv_at hl 4 rfl) ?_
    obtain ⟨hg23, hD⟩ := gd_s hD
    refine r_iast (eM_loc g q) X I (by decide) (eMa_1 g q) hg23 dX7_slopes_35 (fun H locs I => ?_)
    refine lv_iload_n hx hb dX7_slopes_36 rfl (lv_at hl 3 rfl) ?_
    refine lv_aload_n hx hb dX7_slopes_37 rfl (lv_at hl 0 rfl) ?_
    obtain ⟨y26, hy26, hD⟩ := bd_s hD
    refine r_calli (r_runV (As := []) (rest := [.int v3]) X I (c_X7_areSo l g q _ (up2 σ 1 v1.toNatClampNeg v4) hy26) kv_X7_areSo ml_X7_224 rfl (by decide) (eM_Model g q _) ⟨Nat.le_of_ble_eq_true rfl, Nat.le_of_ble_eq_true rfl⟩ ⟨Nat.zero_le _, Nat.zero_le _⟩ rfl rfl hl.1 (Nat.le_of_ble_eq_true rfl) dX7_slopes_38) I (fun H locs I => ?_)
    refine lv_if_eq (tgt := 51) hx hb dX7_slopes_41 (by decide) (fun hc27 => ?_) (fun hc27 => ?_)
    · have hD := ite_p hc27 hD
      refine lv_iconst (v := 0) hx hb dX7_slopes_51 (by decide) ?_
      exact w_X7_slopes_52 g q X (up2 σ 1 v1.toNatClampNeg v4) v1 v2 v4 (0 : Int32) v3 rc22 hrc22 hD _ _ _ I (lv_sub hl [0, 1, 2, 4] rfl)
    · have hD := ite_n hc27 hD
      refine lv_iconst (v := 1) hx hb dX7_slopes_44 (by decide) ?_
      refine lv_iload hx hb dX7_slopes_45 (lv_at hl 4 rfl) ?_
      refine lv_ishl hx hb dX7_slopes_47 ?_
      refine lv_goto (tgt := 52) hx hb dX7_slopes_48 (by decide) ?_
      exact w_X7_slopes_52 g q X (up2 σ 1 v1.toNatClampNeg v4) v1 v2 v4 ((1 : Int32) <<< (v4 &&& 31)) v3 rc22 hrc22 hD _ _ _ I (lv_sub hl [0, 1, 2, 4] rfl)
def D_X7_slopes_22  (v1 : Int32) (v2 : Int32) : Nat → St → Int32 → Int32 → Option (Int32 × St)
  | 0 => fun _ _ _ => none
  | n + 1 => fun σ v3 v4 => D_X7_slopes_22b σ (D_X7_slopes_22 v1 v2 n) v1 v2 v3 v4
set_option maxRecDepth 100000 in
set_option maxHeartbeats 4000000 in
theorem w_X7_slopes_22 {p : Program} {l : Launch} {e : Env} {s : State} {m : MethodId} {args : Array Value} {below : List Frame} {meth : Method} {c : Code} (g : Gh) (q : Nat → Nat) (X : MX p s m args meth c cX7_slopes 5 (some .int) RX7) {rr : (Int32 × St)}  (v1 : Int32) (v2 : Int32) : ∀ (n : Nat) (σ : St) (v3 : Int32) (v4 : Int32), D_X7_slopes_22 v1 v2 n σ v3 v4 = some rr → ∀ (H : Heap) (locs : List Loc) (ls : Array Slot), IM g q s σ H locs → lv_has ls 5 [(0, .ref (q 0)), (1, .int v1), (2, .int v2), (3, .int v3), (4, .int v4)] → W p l e (rmD 3) s m args below meth c H locs 0 0 (MQ below (QI g (eM g q) q 22 rr.1 rr.2 s.heap.size) args s 0 0 (AQ q 22 s.heap.size)) (F0 m 22 ls []) := by
  intro n
  induction n with
  | zero =>
    intro σ v3 v4 hD H locs ls I hl
    cases hD
  | succ n ih =>
    intro σ v3 v4 hD H locs ls I hl
    exact w_X7_slopes_22b g q X σ v1 v2 v3 v4 _ ih hD H locs ls I hl
def D_X7_slopes (σ : St) (p1 : Int32) : Option (Int32 × St) := (D_X7_noSection σ p1).bind fun y3 => if y3 = 0 then gd (inb p1 5) (D_X7_slopes_22 p1 (σ 1 p1.toNatClampNeg) FU σ (0 : Int32) (0 : Int32)) else some ((-1 : Int32), σ)
set_option maxRecDepth 100000 in
set_option maxHeartbeats 4000000 in
theorem c_X7_slopes (l : Launch) (g : Gh) (q : Nat → Nat) (sz : Nat) (σ : St) (p1 : Int32) {rr : (Int32 × St)} (hD : D_X7_slopes σ p1 = some rr) : Met l yX7_slopes (wU yX7_slopes cX7_slopes 5 (some .int)) (rmD 3) (PQ g (eM g q) q 22 σ sz [.ref (q 0), .int p1]) (QI g (eM g q) q 22 rr.1 rr.2 sz) 0 0 (AQ q 22 sz) := by
  refine met_of (Qc := QI g (eM g q) q 22 rr.1 rr.2) (by decide) (Nat.le_of_ble_eq_true rfl) ?_
  intro p e s m below meth c ls X I hl
  have hx := X.1
  have hb := X.2.1
  have hl : lv_has ls 5 [(0, .ref (q 0)), (1, .int p1)] := hl
  unfold D_X7_slopes at hD
  refine lv_aload_n hx hb dX7_slopes_0 rfl (lv_at hl 0 rfl) ?_
  refine lv_iload_n hx hb dX7_slopes_1 rfl (lv_at hl 1 rfl) ?_
  obtain ⟨y3, hy3, hD⟩ := bd_s hD
  refine r_calli (r_runV (As := [.int p1]) (rest := []) X I (c_X7_noSection l g q _ σ p1 hy3) kv_X7_noSection ml_X7_161 rfl (by decide) (eM_Model g q _) ⟨Nat.le_of_ble_eq_true rfl, Nat.le_of_ble_eq_true rfl⟩ ⟨Nat.zero_le _, Nat.zero_le _⟩ rfl rfl hl.1 (Nat.le_of_ble_eq_true rfl) dX7_slopes_2) I (fun H locs I => ?_)
  refine lv_if_eq (tgt := 10) hx hb dX7_slopes_5 (by decide) (fun hc4 => ?_) (fun hc4 => ?_)
  · have hD := ite_p hc4 hD
    refine lv_aload_n hx hb dX7_slopes_10 rfl (lv_at hl 0 rfl) ?_
    refine g_Model_slopeOf X I fl_X7_7 dX7_slopes_11 ?_
    refine lv_iload_n hx hb dX7_slopes_14 rfl (lv_at hl 1 rfl) ?_
    obtain ⟨hg8, hD⟩ := gd_s hD
    refine r_iald X I (by decide) ((eMa_1 g q) _) hg8 dX7_slopes_15 ?_
    refine lv_istore_n (lv' := [(2, .int (σ 1 p1.toNatClampNeg)), (0, .ref (q 0)), (1, .int p1)]) hx hb dX7_slopes_16 rfl hl (by decide) rfl (fun ls hl => ?_)
    refine lv_iconst (v := 0) hx hb dX7_slopes_17 (by decide) ?_
    refine lv_istore_n (lv' := [(3, .int (0 : Int32)), (2, .int (σ 1 p1.toNatClampNeg)), (0, .ref (q 0)), (1, .int p1)]) hx hb dX7_slopes_18 rfl hl (by decide) rfl (fun ls hl => ?_)
    refine lv_iconst (v := 0) hx hb dX7_slopes_19 (by decide) ?_
    refine lv_istore (lv' := [(4, .int (0 : Int32)), (3, .int (0 : Int32)), (2, .int (σ 1 p1.toNatClampNeg)), (0, .ref (q 0)), (1, .int p1)]) hx hb dX7_slopes_20 hl (by decide) rfl (fun ls hl => ?_)
    exact w_X7_slopes_22 g q X p1 (σ 1 p1.toNatClampNeg) FU σ (0 : Int32) (0 : Int32) hD _ _ _ I (lv_sub hl [3, 4, 2, 1, 0] rfl)
  · have hD := ite_n hc4 hD
    refine lv_iconst (v := -1) hx hb dX7_slopes_8 (by decide) ?_
    exact r_iret2 X I hD dX7_slopes_9

/-! YearDeckModel.kinds(I)I -/
def D_X7_kinds_60 (σ : St) (v1 : Int32) (v2 : Int32) (v3 : Int32) : Option (Int32 × St) := gd (inb v1 4) (some (v3, up2 σ 2 v1.toNatClampNeg v2))
set_option maxRecDepth 100000 in
set_option maxHeartbeats 4000000 in
theorem w_X7_kinds_60 {p : Program} {l : Launch} {e : Env} {s : State} {m : MethodId} {args : Array Value} {below : List Frame} {meth : Method} {c : Code} (g : Gh) (q : Nat → Nat) (X : MX p s m args meth c cX7_kinds 5 (some .int) RX7) {rr : (Int32 × St)} (σ : St)  (v1 : Int32) (v2 : Int32) (v3 : Int32) (hD : D_X7_kinds_60 σ v1 v2 v3 = some rr) (H : Heap) (locs : List Loc) (ls : Array Slot) (I : IM g q s σ H locs) (hl : lv_has ls 5 [(0, .ref (q 0)), (1, .int v1), (2, .int v2), (3, .int v3)]) : W p l e (rmD 3) s m args below meth c H locs 0 0 (MQ below (QI g (eM g q) q 22 rr.1 rr.2 s.heap.size) args s 0 0 (AQ q 22 s.heap.size)) (F0 m 60 ls []) := by
  have hx := X.1
  have hb := X.2.1
  unfold D_X7_kinds_60 at hD
  refine lv_aload_n hx hb dX7_kinds_60 rfl (lv_at hl 0 rfl) ?_
  refine g_Model_kindOf X I fl_X7_13 dX7_kinds_61 ?_
  refine lv_iload_n hx hb dX7_kinds_64 rfl (lv_at hl 1 rfl) ?_
  refine lv_iload_n hx hb dX7_kinds_65 rfl (lv_at hl 2 rfl) ?_
  obtain ⟨hg37, hD⟩ := gd_s hD
  refine r_iast (eM_loc g q) X I (by decide) (eMa_2 g q) hg37 dX7_kinds_66 (fun H locs I => ?_)
  refine lv_iload_n hx hb dX7_kinds_67 rfl (lv_at hl 3 rfl) ?_
  exact r_iret2 X I hD dX7_kinds_68
def D_X7_kinds_52 (σ : St) (rc22 : St → Int32 → Int32 → Option (Int32 × St)) (v1 : Int32) (v2 : Int32) (v4 : Int32) (t0 : Int32) (t1 : Int32) : Option (Int32 × St) := rc22 σ (t1 ||| t0) (v4 + (1 : Int32))
set_option maxRecDepth 100000 in
set_option maxHeartbeats 4000000 in
theorem w_X7_kinds_52 {p : Program} {l : Launch} {e : Env} {s : State} {m : MethodId} {args : Array Value} {below : List Frame} {meth : Method} {c : Code} (g : Gh) (q : Nat → Nat) (X : MX p s m args meth c cX7_kinds 5 (some .int) RX7) {rr : (Int32 × St)} (σ : St)  (v1 : Int32) (v2 : Int32) (v4 : Int32) (t0 : Int32) (t1 : Int32) (rc22 : St → Int32 → Int32 → Option (Int32 × St)) (hrc22 : ∀ (σ' : St) (v3' : Int32) (v4' : Int32), rc22 σ' v3' v4' = some rr → ∀ (H : Heap) (locs : List Loc) (ls : Array Slot), IM g q s σ' H locs → lv_has ls 5 [(0, .ref (q 0)), (1, .int v1), (2, .int v2), (3, .int v3'), (4, .int v4')] → W p l e (rmD 3) s m args below meth c H locs 0 0 (MQ below (QI g (eM g q) q 22 rr.1 rr.2 s.heap.size) args s 0 0 (AQ q 22 s.heap.size)) (F0 m 22 ls [])) (hD : D_X7_kinds_52 σ rc22 v1 v2 v4 t0 t1 = some rr) (H : Heap) (locs : List Loc) (ls : Array Slot) (I : IM g q s σ H locs) (hl : lv_has ls 5 [(0, .ref (q 0)), (1, .int v1), (2, .int v2), (4, .int v4)]) : W p l e (rmD 3) s m args below meth c H locs 0 0 (MQ below (QI g (eM g q) q 22 rr.1 rr.2 s.heap.size) args s 0 0 (AQ q 22 s.heap.size)) (F0 m 52 ls [.int t0, .int t1]) := by
  have hx := X.1
  have hb := X.2.1
  unfold D_X7_kinds_52 at hD
  refine lv_ior hx hb dX7_kinds_52 ?_
  refine lv_istore_n (lv' := [(3, .int (t1 ||| t0)), (0, .ref (q 0)), (1, .int v1), (2, .int v2), (4, .int v4)]) hx hb dX7_kinds_53 rfl hl (by decide) rfl (fun ls hl => ?_)
  refine lv_iinc (v := v4 + (1 : Int32)) (lv' := [(4, .int (v4 + (1 : Int32))), (3, .int (t1 ||| t0)), (0, .ref (q 0)), (1, .int v1), (2, .int v2)]) hx hb dX7_kinds_54 hl (k := 4) rfl rfl (by decide) rfl (fun ls hl => ?_)
  refine lv_goto (tgt := 22) hx hb dX7_kinds_57 (by decide) ?_
  exact hrc22 σ (t1 ||| t0) (v4 + (1 : Int32)) hD _ _ _ I (lv_sub hl [2, 3, 4, 1, 0] rfl)
def D_X7_kinds_22b (σ : St) (rc22 : St → Int32 → Int32 → Option (Int32 × St)) (v1 : Int32) (v2 : Int32) (v3 : Int32) (v4 : Int32) : Option (Int32 × St) := if (3 : Int32) ≤ v4 then D_X7_kinds_60 σ v1 v2 v3 else gd (inb v1 4) ((D_X7_areSo (up2 σ 2 v1.toNatClampNeg v4)).bind fun y26 => if y26 = 0 then D_X7_kinds_52 (up2 σ 2 v1.toNatClampNeg v4) rc22 v1 v2 v4 (0 : Int32) v3 else D_X7_kinds_52 (up2 σ 2 v1.toNatClampNeg v4) rc22 v1 v2 v4 ((1 : Int32) <<< (v4 &&& 31)) v3)
set_option maxRecDepth 100000 in
set_option maxHeartbeats 4000000 in
theorem w_X7_kinds_22b {p : Program} {l : Launch} {e : Env} {s : State} {m : MethodId} {args : Array Value} {below : List Frame} {meth : Method} {c : Code} (g : Gh) (q : Nat → Nat) (X : MX p s m args meth c cX7_kinds 5 (some .int) RX7) {rr : (Int32 × St)} (σ : St)  (v1 : Int32) (v2 : Int32) (v3 : Int32) (v4 : Int32) (rc22 : St → Int32 → Int32 → Option (Int32 × St)) (hrc22 : ∀ (σ' : St) (v3' : Int32) (v4' : Int32), rc22 σ' v3' v4' = some rr → ∀ (H : Heap) (locs : List Loc) (ls : Array Slot), IM g q s σ' H locs → lv_has ls 5 [(0, .ref (q 0)), (1, .int v1), (2, .int v2), (3, .int v3'), (4, .int v4')] → W p l e (rmD 3) s m args below meth c H locs 0 0 (MQ below (QI g (eM g q) q 22 rr.1 rr.2 s.heap.size) args s 0 0 (AQ q 22 s.heap.size)) (F0 m 22 ls [])) (hD : D_X7_kinds_22b σ rc22 v1 v2 v3 v4 = some rr) (H : Heap) (locs : List Loc) (ls : Array Slot) (I : IM g q s σ H locs) (hl : lv_has ls 5 [(0, .ref (q 0)), (1, .int v1), (2, .int v2), (3, .int v3), (4, .int v4)]) : W p l e (rmD 3) s m args below meth c H locs 0 0 (MQ below (QI g (eM g q) q 22 rr.1 rr.2 s.heap.size) args s 0 0 (AQ q 22 s.heap.size)) (F0 m 22 ls []) := by
  have hx := X.1
  have hb := X.2.1
  unfold D_X7_kinds_22b at hD
  refine lv_iload hx hb dX7_kinds_22 (lv_at hl 4 rfl) ?_
  refine lv_iconst (v := 3) hx hb dX7_kinds_24 (by decide) ?_
  refine lv_icmp_ge (tgt := 60) hx hb dX7_kinds_25 (by decide) (fun hc18 => ?_) (fun hc18 => ?_)
  · have hD := ite_p hc18 hD
    exact w_X7_kinds_60 g q X σ v1 v2 v3 hD _ _ _ I (lv_sub hl [0, 1, 2, 3] rfl)
  · have hD := ite_n hc18 hD
    refine lv_aload_n hx hb dX7_kinds_28 rfl (lv_at hl 0 rfl) ?_
    refine g_Model_kindOf X I fl_X7_13 dX7_kinds_29 ?_
    refine lv_iload_n hx hb dX7_kinds_32 rfl (lv_at hl 1 rfl) ?_
    refine lv_iload hx hb dX7_kinds_33 (lv_at hl 4 rfl) ?_
    obtain ⟨hg23, hD⟩ := gd_s hD
    refine r_iast (eM_loc g q) X I (by decide) (eMa_2 g q) hg23 dX7_kinds_35 (fun H locs I => ?_)
    refine lv_iload_n hx hb dX7_kinds_36 rfl (lv_at hl 3 rfl) ?_
    refine lv_aload_n hx hb dX7_kinds_37 rfl (lv_at hl 0 rfl) ?_
    obtain ⟨y26, hy26, hD⟩ := bd_s hD
    refine r_calli (r_runV (As := []) (rest := [.int v3]) X I (c_X7_areSo l g q _ (up2 σ 2 v1.toNatClampNeg v4) hy26) kv_X7_areSo ml_X7_224 rfl (by decide) (eM_Model g q _) ⟨Nat.le_of_ble_eq_true rfl, Nat.le_of_ble_eq_true rfl⟩ ⟨Nat.zero_le _, Nat.zero_le _⟩ rfl rfl hl.1 (Nat.le_of_ble_eq_true rfl) dX7_kinds_38) I (fun H locs I => ?_)
    refine lv_if_eq (tgt := 51) hx hb dX7_kinds_41 (by decide) (fun hc27 => ?_) (fun hc27 => ?_)
    · have hD := ite_p hc27 hD
      refine lv_iconst (v := 0) hx hb dX7_kinds_51 (by decide) ?_
      exact w_X7_kinds_52 g q X (up2 σ 2 v1.toNatClampNeg v4) v1 v2 v4 (0 : Int32) v3 rc22 hrc22 hD _ _ _ I (lv_sub hl [0, 1, 2, 4] rfl)
    · have hD := ite_n hc27 hD
      refine lv_iconst (v := 1) hx hb dX7_kinds_44 (by decide) ?_
      refine lv_iload hx hb dX7_kinds_45 (lv_at hl 4 rfl) ?_
      refine lv_ishl hx hb dX7_kinds_47 ?_
      refine lv_goto (tgt := 52) hx hb dX7_kinds_48 (by decide) ?_
      exact w_X7_kinds_52 g q X (up2 σ 2 v1.toNatClampNeg v4) v1 v2 v4 ((1 : Int32) <<< (v4 &&& 31)) v3 rc22 hrc22 hD _ _ _ I (lv_sub hl [0, 1, 2, 4] rfl)
def D_X7_kinds_22  (v1 : Int32) (v2 : Int32) : Nat → St → Int32 → Int32 → Option (Int32 × St)
  | 0 => fun _ _ _ => none
  | n + 1 => fun σ v3 v4 => D_X7_kinds_22b σ (D_X7_kinds_22 v1 v2 n) v1 v2 v3 v4
set_option maxRecDepth 100000 in
set_option maxHeartbeats 4000000 in
theorem w_X7_kinds_22 {p : Program} {l : Launch} {e : Env} {s : State} {m : MethodId} {args : Array Value} {below : List Frame} {meth : Method} {c : Code} (g : Gh) (q : Nat → Nat) (X : MX p s m args meth c cX7_kinds 5 (some .int) RX7) {rr : (Int32 × St)}  (v1 : Int32) (v2 : Int32) : ∀ (n : Nat) (σ : St) (v3 : Int32) (v4 : Int32), D_X7_kinds_22 v1 v2 n σ v3 v4 = some rr → ∀ (H : Heap) (locs : List Loc) (ls : Array Slot), IM g q s σ H locs → lv_has ls 5 [(0, .ref (q 0)), (1, .int v1), (2, .int v2), (3, .int v3), (4, .int v4)] → W p l e (rmD 3) s m args below meth c H locs 0 0 (MQ below (QI g (eM g q) q 22 rr.1 rr.2 s.heap.size) args s 0 0 (AQ q 22 s.heap.size)) (F0 m 22 ls []) := by
  intro n
  induction n with
  | zero =>
    intro σ v3 v4 hD H locs ls I hl
    cases hD
  | succ n ih =>
    intro σ v3 v4 hD H locs ls I hl
    exact w_X7_kinds_22b g q X σ v1 v2 v3 v4 _ ih hD H locs ls I hl
def D_X7_kinds (σ : St) (p1 : Int32) : Option (Int32 × St) := (D_X7_noRider σ p1).bind fun y3 => if y3 = 0 then gd (inb p1 4) (D_X7_kinds_22 p1 (σ 2 p1.toNatClampNeg) FU σ (0 : Int32) (0 : Int32)) else some ((-1 : Int32), σ)
set_option maxRecDepth 100000 in
set_option maxHeartbeats 4000000 in
theorem c_X7_kinds (l : Launch) (g : Gh) (q : Nat → Nat) (sz : Nat) (σ : St) (p1 : Int32) {rr : (Int32 × St)} (hD : D_X7_kinds σ p1 = some rr) : Met l yX7_kinds (wU yX7_kinds cX7_kinds 5 (some .int)) (rmD 3) (PQ g (eM g q) q 22 σ sz [.ref (q 0), .int p1]) (QI g (eM g q) q 22 rr.1 rr.2 sz) 0 0 (AQ q 22 sz) := by
  refine met_of (Qc := QI g (eM g q) q 22 rr.1 rr.2) (by decide) (Nat.le_of_ble_eq_true rfl) ?_
  intro p e s m below meth c ls X I hl
  have hx := X.1
  have hb := X.2.1
  have hl : lv_has ls 5 [(0, .ref (q 0)), (1, .int p1)] := hl
  unfold D_X7_kinds at hD
  refine lv_aload_n hx hb dX7_kinds_0 rfl (lv_at hl 0 rfl) ?_
  refine lv_iload_n hx hb dX7_kinds_1 rfl (lv_at hl 1 rfl) ?_
  obtain ⟨y3, hy3, hD⟩ := bd_s hD
  refine r_calli (r_runV (As := [.int p1]) (rest := []) X I (c_X7_noRider l g q _ σ p1 hy3) kv_X7_noRider ml_X7_158 rfl (by decide) (eM_Model g q _) ⟨Nat.le_of_ble_eq_true rfl, Nat.le_of_ble_eq_true rfl⟩ ⟨Nat.zero_le _, Nat.zero_le _⟩ rfl rfl hl.1 (Nat.le_of_ble_eq_true rfl) dX7_kinds_2) I (fun H locs I => ?_)
  refine lv_if_eq (tgt := 10) hx hb dX7_kinds_5 (by decide) (fun hc4 => ?_) (fun hc4 => ?_)
  · have hD := ite_p hc4 hD
    refine lv_aload_n hx hb dX7_kinds_10 rfl (lv_at hl 0 rfl) ?_
    refine g_Model_kindOf X I fl_X7_13 dX7_kinds_11 ?_
    refine lv_iload_n hx hb dX7_kinds_14 rfl (lv_at hl 1 rfl) ?_
    obtain ⟨hg8, hD⟩ := gd_s hD
    refine r_iald X I (by decide) ((eMa_2 g q) _) hg8 dX7_kinds_15 ?_
    refine lv_istore_n (lv' := [(2, .int (σ 2 p1.toNatClampNeg)), (0, .ref (q 0)), (1, .int p1)]) hx hb dX7_kinds_16 rfl hl (by decide) rfl (fun ls hl => ?_)
    refine lv_iconst (v := 0) hx hb dX7_kinds_17 (by decide) ?_
    refine lv_istore_n (lv' := [(3, .int (0 : Int32)), (2, .int (σ 2 p1.toNatClampNeg)), (0, .ref (q 0)), (1, .int p1)]) hx hb dX7_kinds_18 rfl hl (by decide) rfl (fun ls hl => ?_)
    refine lv_iconst (v := 0) hx hb dX7_kinds_19 (by decide) ?_
    refine lv_istore (lv' := [(4, .int (0 : Int32)), (3, .int (0 : Int32)), (2, .int (σ 2 p1.toNatClampNeg)), (0, .ref (q 0)), (1, .int p1)]) hx hb dX7_kinds_20 hl (by decide) rfl (fun ls hl => ?_)
    exact w_X7_kinds_22 g q X p1 (σ 2 p1.toNatClampNeg) FU σ (0 : Int32) (0 : Int32) hD _ _ _ I (lv_sub hl [3, 4, 2, 1, 0] rfl)
  · have hD := ite_n hc4 hD
    refine lv_iconst (v := -1) hx hb dX7_kinds_8 (by decide) ?_
    exact r_iret2 X I hD dX7_kinds_9

/-! YearDeckModel.began(II)I -/
def D_X7_began_95 (σ : St) (v1 : Int32) (v2 : Int32) (v3 : Int32) (v4 : Int32) (v5 : Int32) : Option (Int32 × St) := gd (inb v1 4) (if v2 = 0 then some (v4, up2 σ 5 v1.toNatClampNeg v3) else some (v5, up2 σ 5 v1.toNatClampNeg v3))
set_option maxRecDepth 100000 in
set_option maxHeartbeats 4000000 in
theorem w_X7_began_95 {p : Program} {l : Launch} {e : Env} {s : State} {m : MethodId} {args : Array Value} {below : List Frame} {meth : Method} {c : Code} (g : Gh) (q : Nat → Nat) (X : MX p s m args meth c cX7_began 8 (some .int) RX7) {rr : (Int32 × St)} (σ : St)  (v1 : Int32) (v2 : Int32) (v3 : Int32) (v4 : Int32) (v5 : Int32) (hD : D_X7_began_95 σ v1 v2 v3 v4 v5 = some rr) (H : Heap) (locs : List Loc) (ls : Array Slot) (I : IM g q s σ H locs) (hl : lv_has ls 8 [(0, .ref (q 0)), (1, .int v1), (2, .int v2), (3, .int v3), (4, .int v4), (5, .int v5)]) : W p l e (rmD 3) s m args below meth c H locs 0 0 (MQ below (QI g (eM g q) q 22 rr.1 rr.2 s.heap.size) args s 0 0 (AQ q 22 s.heap.size)) (F0 m 95 ls []) := by
  have hx := X.1
  have hb := X.2.1
  unfold D_X7_began_95 at hD
  refine lv_aload_n hx hb dX7_began_95 rfl (lv_at hl 0 rfl) ?_
  refine g_Model_ageOf X I fl_X7_22 dX7_began_96 ?_
  refine lv_iload_n hx hb dX7_began_99 rfl (lv_at hl 1 rfl) ?_
  refine lv_iload_n hx hb dX7_began_100 rfl (lv_at hl 3 rfl) ?_
  obtain ⟨hg46, hD⟩ := gd_s hD
  refine r_iast (eM_loc g q) X I (by decide) (eMa_5 g q) hg46 dX7_began_101 (fun H locs I => ?_)
  refine lv_iload_n hx hb dX7_began_102 rfl (lv_at hl 2 rfl) ?_
  refine lv_if_ne (tgt := 111) hx hb dX7_began_103 (by decide) (fun hc48 => ?_) (fun hc48 => ?_)
  · have hD := ite_n hc48 hD
    refine lv_iload hx hb dX7_began_111 (lv_at hl 5 rfl) ?_
    exact r_iret2 X I hD dX7_began_113
  · have hD := ite_p hc48 hD
    refine lv_iload hx hb dX7_began_106 (lv_at hl 4 rfl) ?_
    refine lv_goto (tgt := 113) hx hb dX7_began_108 (by decide) ?_
    exact r_iret2 X I hD dX7_began_113
def D_X7_began_87 (σ : St) (rc41 : St → Int32 → Int32 → Int32 → Option (Int32 × St)) (v1 : Int32) (v2 : Int32) (v3 : Int32) (v4 : Int32) (v6 : Int32) (t0 : Int32) : Option (Int32 × St) := rc41 σ v4 t0 (v6 + (-1 : Int32))
set_option maxRecDepth 100000 in
set_option maxHeartbeats 4000000 in
theorem w_X7_began_87 {p : Program} {l : Launch} {e : Env} {s : State} {m : MethodId} {args : Array Value} {below : List Frame} {meth : Method} {c : Code} (g : Gh) (q : Nat → Nat) (X : MX p s m args meth c cX7_began 8 (some .int) RX7) {rr : (Int32 × St)} (σ : St)  (v1 : Int32) (v2 : Int32) (v3 : Int32) (v4 : Int32) (v6 : Int32) (t0 : Int32) (rc41 : St → Int32 → Int32 → Int32 → Option (Int32 × St)) (hrc41 : ∀ (σ' : St) (v4' : Int32) (v5' : Int32) (v6' : Int32), rc41 σ' v4' v5' v6' = some rr → ∀ (H : Heap) (locs : List Loc) (ls : Array Slot), IM g q s σ' H locs → lv_has ls 8 [(0, .ref (q 0)), (1, .int v1), (2, .int v2), (3, .int v3), (4, .int v4'), (5, .int v5'), (6, .int v6')] → W p l e (rmD 3) s m args below meth c H locs 0 0 (MQ below (QI g (eM g q) q 22 rr.1 rr.2 s.heap.size) args s 0 0 (AQ q 22 s.heap.size)) (F0 m 41 ls [])) (hD : D_X7_began_87 σ rc41 v1 v2 v3 v4 v6 t0 = some rr) (H : Heap) (locs : List Loc) (ls : Array Slot) (I : IM g q s σ H locs) (hl : lv_has ls 8 [(0, .ref (q 0)), (1, .int v1), (2, .int v2), (3, .int v3), (4, .int v4), (6, .int v6)]) : W p l e (rmD 3) s m args below meth c H locs 0 0 (MQ below (QI g (eM g q) q 22 rr.1 rr.2 s.heap.size) args s 0 0 (AQ q 22 s.heap.size)) (F0 m 87 ls [.int t0]) := by
  have hx := X.1
  have hb := X.2.1
  unfold D_X7_began_87 at hD
  refine lv_istore (lv' := [(5, .int t0), (0, .ref (q 0)), (1, .int v1), (2, .int v2), (3, .int v3), (4, .int v4), (6, .int v6)]) hx hb dX7_began_87 hl (by decide) rfl (fun ls hl => ?_)
  refine lv_iinc (v := v6 + (-1 : Int32)) (lv' := [(6, .int (v6 + (-1 : Int32))), (5, .int t0), (0, .ref (q 0)), (1, .int v1), (2, .int v2), (3, .int v3), (4, .int v4)]) hx hb dX7_began_89 hl (k := 6) rfl rfl (by decide) rfl (fun ls hl => ?_)
  refine lv_goto (tgt := 41) hx hb dX7_began_92 (by decide) ?_
  exact hrc41 σ v4 t0 (v6 + (-1 : Int32)) hD _ _ _ I (lv_sub hl [2, 3, 4, 5, 6, 1, 0] rfl)
def D_X7_began_72 (σ : St) (rc41 : St → Int32 → Int32 → Int32 → Option (Int32 × St)) (v1 : Int32) (v2 : Int32) (v3 : Int32) (v5 : Int32) (v6 : Int32) (v7 : Int32) (t0 : Int32) (t1 : Int32) : Option (Int32 × St) := if v7 = 0 then D_X7_began_87 σ rc41 v1 v2 v3 (t1 + t0) v6 v5 else D_X7_began_87 σ rc41 v1 v2 v3 (t1 + t0) v6 v6
set_option maxRecDepth 100000 in
set_option maxHeartbeats 4000000 in
theorem w_X7_began_72 {p : Program} {l : Launch} {e : Env} {s : State} {m : MethodId} {args : Array Value} {below : List Frame} {meth : Method} {c : Code} (g : Gh) (q : Nat → Nat) (X : MX p s m args meth c cX7_began 8 (some .int) RX7) {rr : (Int32 × St)} (σ : St)  (v1 : Int32) (v2 : Int32) (v3 : Int32) (v5 : Int32) (v6 : Int32) (v7 : Int32) (t0 : Int32) (t1 : Int32) (rc41 : St → Int32 → Int32 → Int32 → Option (Int32 × St)) (hrc41 : ∀ (σ' : St) (v4' : Int32) (v5' : Int32) (v6' : Int32), rc41 σ' v4' v5' v6' = some rr → ∀ (H : Heap) (locs : List Loc) (ls : Array Slot), IM g q s σ' H locs → lv_has ls 8 [(0, .ref (q 0)), (1, .int v1), (2, .int v2), (3, .int v3), (4, .int v4'), (5, .int v5'), (6, .int v6')] → W p l e (rmD 3) s m args below meth c H locs 0 0 (MQ below (QI g (eM g q) q 22 rr.1 rr.2 s.heap.size) args s 0 0 (AQ q 22 s.heap.size)) (F0 m 41 ls [])) (hD : D_X7_began_72 σ rc41 v1 v2 v3 v5 v6 v7 t0 t1 = some rr) (H : Heap) (locs : List Loc) (ls : Array Slot) (I : IM g q s σ H locs) (hl : lv_has ls 8 [(0, .ref (q 0)), (1, .int v1), (2, .int v2), (3, .int v3), (5, .int v5), (6, .int v6), (7, .int v7)]) : W p l e (rmD 3) s m args below meth c H locs 0 0 (MQ below (QI g (eM g q) q 22 rr.1 rr.2 s.heap.size) args s 0 0 (AQ q 22 s.heap.size)) (F0 m 72 ls [.int t0, .int t1]) := by
  have hx := X.1
  have hb := X.2.1
  unfold D_X7_began_72 at hD
  refine lv_iadd hx hb dX7_began_72 ?_
  refine lv_istore (lv' := [(4, .int (t1 + t0)), (0, .ref (q 0)), (1, .int v1), (2, .int v2), (3, .int v3), (5, .int v5), (6, .int v6), (7, .int v7)]) hx hb dX7_began_73 hl (by decide) rfl (fun ls hl => ?_)
  refine lv_iload hx hb dX7_began_75 (lv_at hl 7 rfl) ?_
  refine lv_if_eq (tgt := 85) hx hb dX7_began_77 (by decide) (fun hc57 => ?_) (fun hc57 => ?_)
  · have hD := ite_p hc57 hD
    refine lv_iload hx hb dX7_began_85 (lv_at hl 5 rfl) ?_
    exact w_X7_began_87 g q X σ v1 v2 v3 (t1 + t0) v6 v5 rc41 hrc41 hD _ _ _ I (lv_sub hl [1, 2, 3, 4, 0, 6] rfl)
  · have hD := ite_n hc57 hD
    refine lv_iload hx hb dX7_began_80 (lv_at hl 6 rfl) ?_
    refine lv_goto (tgt := 87) hx hb dX7_began_82 (by decide) ?_
    exact w_X7_began_87 g q X σ v1 v2 v3 (t1 + t0) v6 v6 rc41 hrc41 hD _ _ _ I (lv_sub hl [1, 2, 3, 4, 0, 6] rfl)
def D_X7_began_41b (σ : St) (rc41 : St → Int32 → Int32 → Int32 → Option (Int32 × St)) (v1 : Int32) (v2 : Int32) (v3 : Int32) (v4 : Int32) (v5 : Int32) (v6 : Int32) : Option (Int32 × St) := if v6 < 0 then D_X7_began_95 σ v1 v2 v3 v4 v5 else gd (inb v1 4) ((D_X7_areSo (up2 σ 5 v1.toNatClampNeg v6)).bind fun y34 => if y34 = 0 then D_X7_began_72 (up2 σ 5 v1.toNatClampNeg v6) rc41 v1 v2 v3 v5 v6 y34 (0 : Int32) v4 else D_X7_began_72 (up2 σ 5 v1.toNatClampNeg v6) rc41 v1 v2 v3 v5 v6 y34 (1 : Int32) v4)
set_option maxRecDepth 100000 in
set_option maxHeartbeats 4000000 in
theorem w_X7_began_41b {p : Program} {l : Launch} {e : Env} {s : State} {m : MethodId} {args : Array Value} {below : List Frame} {meth : Method} {c : Code} (g : Gh) (q : Nat → Nat) (X : MX p s m args meth c cX7_began 8 (some .int) RX7) {rr : (Int32 × St)} (σ : St)  (v1 : Int32) (v2 : Int32) (v3 : Int32) (v4 : Int32) (v5 : Int32) (v6 : Int32) (rc41 : St → Int32 → Int32 → Int32 → Option (Int32 × St)) (hrc41 : ∀ (σ' : St) (v4' : Int32) (v5' : Int32) (v6' : Int32), rc41 σ' v4' v5' v6' = some rr → ∀ (H : Heap) (locs : List Loc) (ls : Array Slot), IM g q s σ' H locs → lv_has ls 8 [(0, .ref (q 0)), (1, .int v1), (2, .int v2), (3, .int v3), (4, .int v4'), (5, .int v5'), (6, .int v6')] → W p l e (rmD 3) s m args below meth c H locs 0 0 (MQ below (QI g (eM g q) q 22 rr.1 rr.2 s.heap.size) args s 0 0 (AQ q 22 s.heap.size)) (F0 m 41 ls [])) (hD : D_X7_began_41b σ rc41 v1 v2 v3 v4 v5 v6 = some rr) (H : Heap) (locs : List Loc) (ls : Array Slot) (I : IM g q s σ H locs) (hl : lv_has ls 8 [(0, .ref (q 0)), (1, .int v1), (2, .int v2), (3, .int v3), (4, .int v4), (5, .int v5), (6, .int v6)]) : W p l e (rmD 3) s m args below meth c H locs 0 0 (MQ below (QI g (eM g q) q 22 rr.1 rr.2 s.heap.size) args s 0 0 (AQ q 22 s.heap.size)) (F0 m 41 ls []) := by
  have hx := X.1
  have hb := X.2.1
  unfold D_X7_began_41b at hD
  refine lv_iload hx hb dX7_began_41 (lv_at hl 6 rfl) ?_
  refine lv_if_lt (tgt := 95) hx hb dX7_began_43 (by decide) (fun hc27 => ?_) (fun hc27 => ?_)
  · have hD := ite_p hc27 hD
    exact w_X7_began_95 g q X σ v1 v2 v3 v4 v5 hD _ _ _ I (lv_sub hl [0, 1, 2, 3, 4, 5] rfl)
  · have hD := ite_n hc27 hD
    refine lv_aload_n hx hb dX7_began_46 rfl (lv_at hl 0 rfl) ?_
    refine g_Model_ageOf X I fl_X7_22 dX7_began_47 ?_
    refine lv_iload_n hx hb dX7_began_50 rfl (lv_at hl 1 rfl) ?_
    refine lv_iload hx hb dX7_began_51 (lv_at hl 6 rfl) ?_
    obtain ⟨hg32, hD⟩ := gd_s hD
    refine r_iast (eM_loc g q) X I (by decide) (eMa_5 g q) hg32 dX7_began_53 (fun H locs I => ?_)
    refine lv_aload_n hx hb dX7_began_54 rfl (lv_at hl 0 rfl) ?_
    obtain ⟨y34, hy34, hD⟩ := bd_s hD
    refine r_calli (r_runV (As := []) (rest := []) X I (c_X7_areSo l g q _ (up2 σ 5 v1.toNatClampNeg v6) hy34) kv_X7_areSo ml_X7_224 rfl (by decide) (eM_Model g q _) ⟨Nat.le_of_ble_eq_true rfl, Nat.le_of_ble_eq_true rfl⟩ ⟨Nat.zero_le _, Nat.zero_le _⟩ rfl rfl hl.1 (Nat.le_of_ble_eq_true rfl) dX7_began_55) I (fun H locs I => ?_)
    refine lv_istore (lv' := [(7, .int y34), (0, .ref (q 0)), (1, .int v1), (2, .int v2), (3, .int v3), (4, .int v4), (5, .int v5), (6, .int v6)]) hx hb dX7_began_58 hl (by decide) rfl (fun ls hl => ?_)
    refine lv_iload hx hb dX7_began_60 (lv_at hl 5 rfl) ?_
    refine lv_iload hx hb dX7_began_62 (lv_at hl 0 rfl) ?_
    refine lv_if_eq (tgt := 71) hx hb dX7_began_64 (by decide) (fun hc38 => ?_) (fun hc38 => ?_)
    · have hD := ite_p hc38 hD
      refine lv_iconst (v := 0) hx hb dX7_began_71 (by decide) ?_
      exact w_X7_began_72 g q X (up2 σ 5 v1.toNatClampNeg v6) v1 v2 v3 v5 v6 y34 (0 : Int32) v4 rc41 hrc41 hD _ _ _ I (lv_sub hl [1, 2, 3, 4, 6, 7, 0] rfl)
    · have hD := ite_n hc38 hD
      refine lv_iconst (v := 1) hx hb dX7_began_67 (by decide) ?_
      refine lv_goto (tgt := 72) hx hb dX7_began_68 (by decide) ?_
      exact w_X7_began_72 g q X (up2 σ 5 v1.toNatClampNeg v6) v1 v2 v3 v5 v6 y34 (1 : Int32) v4 rc41 hrc41 hD _ _ _ I (lv_sub hl [1, 2, 3, 4, 6, 7, 0] rfl)
def D_X7_began_41  (v1 : Int32) (v2 : Int32) (v3 : Int32) : Nat → St → Int32 → Int32 → Int32 → Option (Int32 × St)
  | 0 => fun _ _ _ _ => none
  | n + 1 => fun σ v4 v5 v6 => D_X7_began_41b σ (D_X7_began_41 v1 v2 v3 n) v1 v2 v3 v4 v5 v6
set_option maxRecDepth 100000 in
set_option maxHeartbeats 4000000 in
theorem w_X7_began_41 {p : Program} {l : Launch} {e : Env} {s : State} {m : MethodId} {args : Array Value} {below : List Frame} {meth : Method} {c : Code} (g : Gh) (q : Nat → Nat) (X : MX p s m args meth c cX7_began 8 (some .int) RX7) {rr : (Int32 × St)}  (v1 : Int32) (v2 : Int32) (v3 : Int32) : ∀ (n : Nat) (σ : St) (v4 : Int32) (v5 : Int32) (v6 : Int32), D_X7_began_41 v1 v2 v3 n σ v4 v5 v6 = some rr → ∀ (H : Heap) (locs : List Loc) (ls : Array Slot), IM g q s σ H locs → lv_has ls 8 [(0, .ref (q 0)), (1, .int v1), (2, .int v2), (3, .int v3), (4, .int v4), (5, .int v5), (6, .int v6)] → W p l e (rmD 3) s m args below meth c H locs 0 0 (MQ below (QI g (eM g q) q 22 rr.1 rr.2 s.heap.size) args s 0 0 (AQ q 22 s.heap.size)) (F0 m 41 ls []) := by
  intro n
  induction n with
  | zero =>
    intro σ v4 v5 v6 hD H locs ls I hl
    cases hD
  | succ n ih =>
    intro σ v4 v5 v6 hD H locs ls I hl
    exact w_X7_began_41b g q X σ v1 v2 v3 v4 v5 v6 _ ih hD H locs ls I hl
def D_X7_began (σ : St) (p1 : Int32) (p2 : Int32) : Option (Int32 × St) := (D_X7_noRider σ p1).bind fun y3 => if y3 = 0 then (D_X7_in σ p2.toInt64 (0 : Int64) (1 : Int64)).bind fun y9 => if y9 = 0 then some ((-2 : Int32), σ) else gd (inb p1 4) (D_X7_began_41 p1 p2 (σ 5 p1.toNatClampNeg) FU σ (0 : Int32) (-9 : Int32) (79 : Int32)) else some ((-1 : Int32), σ)
set_option maxRecDepth 100000 in
set_option maxHeartbeats 4000000 in
theorem c_X7_began (l : Launch) (g : Gh) (q : Nat → Nat) (sz : Nat) (σ : St) (p1 : Int32) (p2 : Int32) {rr : (Int32 × St)} (hD : D_X7_began σ p1 p2 = some rr) : Met l yX7_began (wU yX7_began cX7_began 8 (some .int)) (rmD 3) (PQ g (eM g q) q 22 σ sz [.ref (q 0), .int p1, .int p2]) (QI g (eM g q) q 22 rr.1 rr.2 sz) 0 0 (AQ q 22 sz) := by
  refine met_of (Qc := QI g (eM g q) q 22 rr.1 rr.2) (by decide) (Nat.le_of_ble_eq_true rfl) ?_
  intro p e s m below meth c ls X I hl
  have hx := X.1
  have hb := X.2.1
  have hl : lv_has ls 8 [(0, .ref (q 0)), (1, .int p1), (2, .int p2)] := hl
  unfold D_X7_began at hD
  refine lv_aload_n hx hb dX7_began_0 rfl (lv_at hl 0 rfl) ?_
  refine lv_iload_n hx hb dX7_began_1 rfl (lv_at hl 1 rfl) ?_
  obtain ⟨y3, hy3, hD⟩ := bd_s hD
  refine r_calli (r_runV (As := [.int p1]) (rest := []) X I (c_X7_noRider l g q _ σ p1 hy3) kv_X7_noRider ml_X7_158 rfl (by decide) (eM_Model g q _) ⟨Nat.le_of_ble_eq_true rfl, Nat.le_of_ble_eq_true rfl⟩ ⟨Nat.zero_le _, Nat.zero_le _⟩ rfl rfl hl.1 (Nat.le_of_ble_eq_true rfl) dX7_began_2) I (fun H locs I => ?_)
  refine lv_if_eq (tgt := 10) hx hb dX7_began_5 (by decide) (fun hc4 => ?_) (fun hc4 => ?_)
  · have hD := ite_p hc4 hD
    refine lv_iload_n hx hb dX7_began_10 rfl (lv_at hl 2 rfl) ?_
    refine lv_i2l hx hb dX7_began_11 rfl ?_
    refine lv_lconst (v := 0) hx hb dX7_began_12 rfl ?_
    refine lv_lconst (v := 1) hx hb dX7_began_13 rfl ?_
    obtain ⟨y9, hy9, hD⟩ := bd_s hD
    refine r_calli (r_runS (As := [.long p2.toInt64, .long (0 : Int64), .long (1 : Int64)]) (rest := []) X I (c_X7_in l g q _ σ p2.toInt64 (0 : Int64) (1 : Int64) hy9) ks_X7_in ml_X7_87 ⟨Nat.le_of_ble_eq_true rfl, Nat.le_of_ble_eq_true rfl⟩ ⟨Nat.zero_le _, Nat.zero_le _⟩ rfl rfl hl.1 (Nat.le_of_ble_eq_true rfl) dX7_began_14) I (fun H locs I => ?_)
    refine lv_if_ne (tgt := 23) hx hb dX7_began_17 (by decide) (fun hc10 => ?_) (fun hc10 => ?_)
    · have hD := ite_n hc10 hD
      refine lv_aload_n hx hb dX7_began_23 rfl (lv_at hl 0 rfl) ?_
      refine g_Model_ageOf X I fl_X7_22 dX7_began_24 ?_
      refine lv_iload_n hx hb dX7_began_27 rfl (lv_at hl 1 rfl) ?_
      obtain ⟨hg14, hD⟩ := gd_s hD
      refine r_iald X I (by decide) ((eMa_5 g q) _) hg14 dX7_began_28 ?_
      refine lv_istore_n (lv' := [(3, .int (σ 5 p1.toNatClampNeg)), (0, .ref (q 0)), (1, .int p1), (2, .int p2)]) hx hb dX7_began_29 rfl hl (by decide) rfl (fun ls hl => ?_)
      refine lv_iconst (v := 0) hx hb dX7_began_30 (by decide) ?_
      refine lv_istore (lv' := [(4, .int (0 : Int32)), (3, .int (σ 5 p1.toNatClampNeg)), (0, .ref (q 0)), (1, .int p1), (2, .int p2)]) hx hb dX7_began_31 hl (by decide) rfl (fun ls hl => ?_)
      refine lv_bipush (v := -9) hx hb dX7_began_33 (by decide) ?_
      refine lv_istore (lv' := [(5, .int (-9 : Int32)), (4, .int (0 : Int32)), (3, .int (σ 5 p1.toNatClampNeg)), (0, .ref (q 0)), (1, .int p1), (2, .int p2)]) hx hb dX7_began_35 hl (by decide) rfl (fun ls hl => ?_)
      refine lv_bipush (v := 79) hx hb dX7_began_37 (by decide) ?_
      refine lv_istore (lv' := [(6, .int (79 : Int32)), (5, .int (-9 : Int32)), (4, .int (0 : Int32)), (3, .int (σ 5 p1.toNatClampNeg)), (0, .ref (q 0)), (1, .int p1), (2, .int p2)]) hx hb dX7_began_39 hl (by decide) rfl (fun ls hl => ?_)
      exact w_X7_began_41 g q X p1 p2 (σ 5 p1.toNatClampNeg) FU σ (0 : Int32) (-9 : Int32) (79 : Int32) hD _ _ _ I (lv_sub hl [4, 5, 6, 3, 2, 1, 0] rfl)
    · have hD := ite_p hc10 hD
      refine lv_bipush (v := -2) hx hb dX7_began_20 (by decide) ?_
      exact r_iret2 X I hD dX7_began_22
  · have hD := ite_n hc4 hD
    refine lv_iconst (v := -1) hx hb dX7_began_8 (by decide) ?_
    exact r_iret2 X I hD dX7_began_9

/-! YearDeckModel.odds(III)J -/
def D_X7_odds_114 (σ : St) (v3 : Int32) (v4 : Int64) (v6 : Int64) : Option Int64 := (D_X7_share σ v4 v6 v3).bind fun y39 => some y39
set_option maxRecDepth 100000 in
set_option maxHeartbeats 4000000 in
theorem w_X7_odds_114 {p : Program} {l : Launch} {e : Env} {s : State} {m : MethodId} {args : Array Value} {below : List Frame} {meth : Method} {c : Code} (g : Gh) (q : Nat → Nat) (X : MX p s m args meth c cX7_odds 10 (some .long) RX7) {rr : Int64} (σ : St)  (v3 : Int32) (v4 : Int64) (v6 : Int64) (hD : D_X7_odds_114 σ v3 v4 v6 = some rr) (H : Heap) (locs : List Loc) (ls : Array Slot) (I : IM g q s σ H locs) (hl : lv_has ls 10 [(3, .int v3), (4, .long v4), (6, .long v6)]) : W p l e (rmD 2) s m args below meth c H locs 0 0 (MQ below (QL g (eM g q) q 22 rr σ s.heap.size) args s 0 0 (AQ q 22 s.heap.size)) (F0 m 114 ls []) := by
  have hx := X.1
  have hb := X.2.1
  unfold D_X7_odds_114 at hD
  refine lv_lload hx hb dX7_odds_114 (lv_at hl 1 rfl) ?_
  refine lv_lload hx hb dX7_odds_116 (lv_at hl 2 rfl) ?_
  refine lv_iload_n hx hb dX7_odds_118 rfl (lv_at hl 0 rfl) ?_
  obtain ⟨y39, hy39, hD⟩ := bd_s hD
  refine r_calll (r_runS (As := [.long v4, .long v6, .int v3]) (rest := []) X I (c_X7_share l g q _ σ v4 v6 v3 hy39) ks_X7_share ml_X7_228 ⟨Nat.le_of_ble_eq_true rfl, Nat.le_of_ble_eq_true rfl⟩ ⟨Nat.zero_le _, Nat.zero_le _⟩ rfl rfl hl.1 (Nat.le_of_ble_eq_true rfl) dX7_odds_119) I (fun H locs I => ?_)
  exact r_lret X I hD dX7_odds_122
def D_X7_odds_105 (σ : St) (rc43 : Int64 → Int64 → Int32 → Option Int64) (v1 : Int32) (v2 : Int32) (v3 : Int32) (v6 : Int64) (v8 : Int32) (t0 : Int64) (t1 : Int64) : Option Int64 := rc43 (t1 + t0) v6 (v8 + (1 : Int32))
set_option maxRecDepth 100000 in
set_option maxHeartbeats 4000000 in
theorem w_X7_odds_105 {p : Program} {l : Launch} {e : Env} {s : State} {m : MethodId} {args : Array Value} {below : List Frame} {meth : Method} {c : Code} (g : Gh) (q : Nat → Nat) (X : MX p s m args meth c cX7_odds 10 (some .long) RX7) {rr : Int64} (σ : St)  (v1 : Int32) (v2 : Int32) (v3 : Int32) (v6 : Int64) (v8 : Int32) (t0 : Int64) (t1 : Int64) (rc43 : Int64 → Int64 → Int32 → Option Int64) (hrc43 : ∀ (v4' : Int64) (v6' : Int64) (v8' : Int32), rc43 v4' v6' v8' = some rr → ∀ (H : Heap) (locs : List Loc) (ls : Array Slot), IM g q s σ H locs → lv_has ls 10 [(0, .ref (q 0)), (1, .int v1), (2, .int v2), (3, .int v3), (4, .long v4'), (6, .long v6'), (8, .int v8')] → W p l e (rmD 2) s m args below meth c H locs 0 0 (MQ below (QL g (eM g q) q 22 rr σ s.heap.size) args s 0 0 (AQ q 22 s.heap.size)) (F0 m 43 ls [])) (hD : D_X7_odds_105 σ rc43 v1 v2 v3 v6 v8 t0 t1 = some rr) (H : Heap) (locs : List Loc) (ls : Array Slot) (I : IM g q s σ H locs) (hl : lv_has ls 10 [(0, .ref (q 0)), (1, .int v1), (2, .int v2), (3, .int v3), (6, .long v6), (8, .int v8)]) : W p l e (rmD 2) s m args below meth c H locs 0 0 (MQ below (QL g (eM g q) q 22 rr σ s.heap.size) args s 0 0 (AQ q 22 s.heap.size)) (F0 m 105 ls [.long t0, .long t1]) := by
  have hx := X.1
  have hb := X.2.1
  unfold D_X7_odds_105 at hD
  refine lv_ladd hx hb dX7_odds_105 ?_
  refine lv_lstore (lv' := [(4, .long (t1 + t0)), (0, .ref (q 0)), (1, .int v1), (2, .int v2), (3, .int v3), (6, .long v6), (8, .int v8)]) hx hb dX7_odds_106 hl (by decide) rfl (fun ls hl => ?_)
  refine lv_iinc (v := v8 + (1 : Int32)) (lv' := [(8, .int (v8 + (1 : Int32))), (4, .long (t1 + t0)), (0, .ref (q 0)), (1, .int v1), (2, .int v2), (3, .int v3), (6, .long v6)]) hx hb dX7_odds_108 hl (k := 6) rfl rfl (by decide) rfl (fun ls hl => ?_)
  refine lv_goto (tgt := 43) hx hb dX7_odds_111 (by decide) ?_
  exact hrc43 (t1 + t0) v6 (v8 + (1 : Int32)) hD _ _ _ I (lv_sub hl [2, 3, 4, 5, 1, 6, 0] rfl)
def D_X7_odds_104 (σ : St) (rc43 : Int64 → Int64 → Int32 → Option Int64) (v1 : Int32) (v2 : Int32) (v3 : Int32) (v6 : Int64) (v8 : Int32) (t0 : Int64) : Option Int64 := D_X7_odds_105 σ rc43 v1 v2 v3 v6 v8 (0 : Int64) t0
set_option maxRecDepth 100000 in
set_option maxHeartbeats 4000000 in
theorem w_X7_odds_104 {p : Program} {l : Launch} {e : Env} {s : State} {m : MethodId} {args : Array Value} {below : List Frame} {meth : Method} {c : Code} (g : Gh) (q : Nat → Nat) (X : MX p s m args meth c cX7_odds 10 (some .long) RX7) {rr : Int64} (σ : St)  (v1 : Int32) (v2 : Int32) (v3 : Int32) (v6 : Int64) (v8 : Int32) (t0 : Int64) (rc43 : Int64 → Int64 → Int32 → Option Int64) (hrc43 : ∀ (v4' : Int64) (v6' : Int64) (v8' : Int32), rc43 v4' v6' v8' = some rr → ∀ (H : Heap) (locs : List Loc) (ls : Array Slot), IM g q s σ H locs → lv_has ls 10 [(0, .ref (q 0)), (1, .int v1), (2, .int v2), (3, .int v3), (4, .long v4'), (6, .long v6'), (8, .int v8')] → W p l e (rmD 2) s m args below meth c H locs 0 0 (MQ below (QL g (eM g q) q 22 rr σ s.heap.size) args s 0 0 (AQ q 22 s.heap.size)) (F0 m 43 ls [])) (hD : D_X7_odds_104 σ rc43 v1 v2 v3 v6 v8 t0 = some rr) (H : Heap) (locs : List Loc) (ls : Array Slot) (I : IM g q s σ H locs) (hl : lv_has ls 10 [(0, .ref (q 0)), (1, .int v1), (2, .int v2), (3, .int v3), (6, .long v6), (8, .int v8)]) : W p l e (rmD 2) s m args below meth c H locs 0 0 (MQ below (QL g (eM g q) q 22 rr σ s.heap.size) args s 0 0 (AQ q 22 s.heap.size)) (F0 m 104 ls [.long t0]) := by
  have hx := X.1
  have hb := X.2.1
  unfold D_X7_odds_104 at hD
  refine lv_lconst (v := 0) hx hb dX7_odds_104 rfl ?_
  exact w_X7_odds_105 g q X σ v1 v2 v3 v6 v8 (0 : Int64) t0 rc43 hrc43 hD _ _ _ I (lv_sub hl [0, 1, 2, 3, 4, 5] rfl)
def D_X7_odds_79 (σ : St) (rc43 : Int64 → Int64 → Int32 → Option Int64) (v1 : Int32) (v2 : Int32) (v3 : Int32) (v4 : Int64) (v8 : Int32) (v9 : Int32) (t0 : Int64) (t1 : Int64) : Option Int64 := if v9 = 0 then D_X7_odds_104 σ rc43 v1 v2 v3 (t1 + t0) v8 v4 else (D_X7_ageBy σ v1 v8).bind fun y56 => if y56 < v2 then D_X7_odds_104 σ rc43 v1 v2 v3 (t1 + t0) v8 v4 else D_X7_odds_105 σ rc43 v1 v2 v3 (t1 + t0) v8 (1 : Int64) v4
set_option maxRecDepth 100000 in
set_option maxHeartbeats 4000000 in
theorem w_X7_odds_79 {p : Program} {l : Launch} {e : Env} {s : State} {m : MethodId} {args : Array Value} {below : List Frame} {meth : Method} {c : Code} (g : Gh) (q : Nat → Nat) (X : MX p s m args meth c cX7_odds 10 (some .long) RX7) {rr : Int64} (σ : St)  (v1 : Int32) (v2 : Int32) (v3 : Int32) (v4 : Int64) (v8 : Int32) (v9 : Int32) (t0 : Int64) (t1 : Int64) (rc43 : Int64 → Int64 → Int32 → Option Int64) (hrc43 : ∀ (v4' : Int64) (v6' : Int64) (v8' : Int32), rc43 v4' v6' v8' = some rr → ∀ (H : Heap) (locs : List Loc) (ls : Array Slot), IM g q s σ H locs → lv_has ls 10 [(0, .ref (q 0)), (1, .int v1), (2, .int v2), (3, .int v3), (4, .long v4'), (6, .long v6'), (8, .int v8')] → W p l e (rmD 2) s m args below meth c H locs 0 0 (MQ below (QL g (eM g q) q 22 rr σ s.heap.size) args s 0 0 (AQ q 22 s.heap.size)) (F0 m 43 ls [])) (hD : D_X7_odds_79 σ rc43 v1 v2 v3 v4 v8 v9 t0 t1 = some rr) (H : Heap) (locs : List Loc) (ls : Array Slot) (I : IM g q s σ H locs) (hl : lv_has ls 10 [(0, .ref (q 0)), (1, .int v1), (2, .int v2), (3, .int v3), (4, .long v4), (8, .int v8), (9, .int v9)]) : W p l e (rmD 2) s m args below meth c H locs 0 0 (MQ below (QL g (eM g q) q 22 rr σ s.heap.size) args s 0 0 (AQ q 22 s.heap.size)) (F0 m 79 ls [.long t0, .long t1]) := by
  have hx := X.1
  have hb := X.2.1
  unfold D_X7_odds_79 at hD
  refine lv_ladd hx hb dX7_odds_79 ?_
  refine lv_lstore (lv' := [(6, .long (t1 + t0)), (0, .ref (q 0)), (1, .int v1), (2, .int v2), (3, .int v3), (4, .long v4), (8, .int v8), (9, .int v9)]) hx hb dX7_odds_80 hl (by decide) rfl (fun ls hl => ?_)
  refine lv_lload hx hb dX7_odds_82 (lv_at hl 5 rfl) ?_
  refine lv_iload hx hb dX7_odds_84 (lv_at hl 7 rfl) ?_
  refine lv_if_eq (tgt := 104) hx hb dX7_odds_86 (by decide) (fun hc52 => ?_) (fun hc52 => ?_)
  · have hD := ite_p hc52 hD
    exact w_X7_odds_104 g q X σ v1 v2 v3 (t1 + t0) v8 v4 rc43 hrc43 hD _ _ _ I (lv_sub hl [1, 2, 3, 4, 0, 6] rfl)
  · have hD := ite_n hc52 hD
    refine lv_aload_n hx hb dX7_odds_89 rfl (lv_at hl 1 rfl) ?_
    refine lv_iload_n hx hb dX7_odds_90 rfl (lv_at hl 2 rfl) ?_
    refine lv_iload hx hb dX7_odds_91 (lv_at hl 6 rfl) ?_
    obtain ⟨y56, hy56, hD⟩ := bd_s hD
    refine r_calli (r_runV (As := [.int v1, .int v8]) (rest := [.long v4]) X I (c_X7_ageBy l g q _ σ v1 v8 hy56) kv_X7_ageBy ml_X7_177 rfl (by decide) (eM_Model g q _) ⟨Nat.le_of_ble_eq_true rfl, Nat.le_of_ble_eq_true rfl⟩ ⟨Nat.zero_le _, Nat.zero_le _⟩ rfl rfl hl.1 (Nat.le_of_ble_eq_true rfl) dX7_odds_93) I (fun H locs I => ?_)
    refine lv_iload_n hx hb dX7_odds_96 rfl (lv_at hl 3 rfl) ?_
    refine lv_icmp_lt (tgt := 104) hx hb dX7_odds_97 (by decide) (fun hc58 => ?_) (fun hc58 => ?_)
    · have hD := ite_p hc58 hD
      exact w_X7_odds_104 g q X σ v1 v2 v3 (t1 + t0) v8 v4 rc43 hrc43 hD _ _ _ I (lv_sub hl [1, 2, 3, 4, 0, 6] rfl)
    · have hD := ite_n hc58 hD
      refine lv_lconst (v := 1) hx hb dX7_odds_100 rfl ?_
      refine lv_goto (tgt := 105) hx hb dX7_odds_101 (by decide) ?_
      exact w_X7_odds_105 g q X σ v1 v2 v3 (t1 + t0) v8 (1 : Int64) v4 rc43 hrc43 hD _ _ _ I (lv_sub hl [1, 2, 3, 4, 0, 6] rfl)
def D_X7_odds_65 (σ : St) (rc43 : Int64 → Int64 → Int32 → Option Int64) (v1 : Int32) (v2 : Int32) (v3 : Int32) (v4 : Int64) (v6 : Int64) (v8 : Int32) (t0 : Int32) : Option Int64 := if t0 = 0 then D_X7_odds_79 σ rc43 v1 v2 v3 v4 v8 t0 (0 : Int64) v6 else D_X7_odds_79 σ rc43 v1 v2 v3 v4 v8 t0 (1 : Int64) v6
set_option maxRecDepth 100000 in
set_option maxHeartbeats 4000000 in
theorem w_X7_odds_65 {p : Program} {l : Launch} {e : Env} {s : State} {m : MethodId} {args : Array Value} {below : List Frame} {meth : Method} {c : Code} (g : Gh) (q : Nat → Nat) (X : MX p s m args meth c cX7_odds 10 (some .long) RX7) {rr : Int64} (σ : St)  (v1 : Int32) (v2 : Int32) (v3 : Int32) (v4 : Int64) (v6 : Int64) (v8 : Int32) (t0 : Int32) (rc43 : Int64 → Int64 → Int32 → Option Int64) (hrc43 : ∀ (v4' : Int64) (v6' : Int64) (v8' : Int32), rc43 v4' v6' v8' = some rr → ∀ (H : Heap) (locs : List Loc) (ls : Array Slot), IM g q s σ H locs → lv_has ls 10 [(0, .ref (q 0)), (1, .int v1), (2, .int v2), (3, .int v3), (4, .long v4'), (6, .long v6'), (8, .int v8')] → W p l e (rmD 2) s m args below meth c H locs 0 0 (MQ below (QL g (eM g q) q 22 rr σ s.heap.size) args s 0 0 (AQ q 22 s.heap.size)) (F0 m 43 ls [])) (hD : D_X7_odds_65 σ rc43 v1 v2 v3 v4 v6 v8 t0 = some rr) (H : Heap) (locs : List Loc) (ls : Array Slot) (I : IM g q s σ H locs) (hl : lv_has ls 10 [(0, .ref (q 0)), (1, .int v1), (2, .int v2), (3, .int v3), (4, .long v4), (6, .long v6), (8, .int v8)]) : W p l e (rmD 2) s m args below meth c H locs 0 0 (MQ below (QL g (eM g q) q 22 rr σ s.heap.size) args s 0 0 (AQ q 22 s.heap.size)) (F0 m 65 ls [.int t0]) := by
  have hx := X.1
  have hb := X.2.1
  unfold D_X7_odds_65 at hD
  refine lv_istore (lv' := [(9, .int t0), (0, .ref (q 0)), (1, .int v1), (2, .int v2), (3, .int v3), (4, .long v4), (6, .long v6), (8, .int v8)]) hx hb dX7_odds_65 hl (by decide) rfl (fun ls hl => ?_)
  refine lv_lload hx hb dX7_odds_67 (lv_at hl 6 rfl) ?_
  refine lv_iload hx hb dX7_odds_69 (lv_at hl 0 rfl) ?_
  refine lv_if_eq (tgt := 78) hx hb dX7_odds_71 (by decide) (fun hc44 => ?_) (fun hc44 => ?_)
  · have hD := ite_p hc44 hD
    refine lv_lconst (v := 0) hx hb dX7_odds_78 rfl ?_
    exact w_X7_odds_79 g q X σ v1 v2 v3 v4 v8 t0 (0 : Int64) v6 rc43 hrc43 hD _ _ _ I (lv_sub hl [1, 2, 3, 4, 5, 7, 0] rfl)
  · have hD := ite_n hc44 hD
    refine lv_lconst (v := 1) hx hb dX7_odds_74 rfl ?_
    refine lv_goto (tgt := 79) hx hb dX7_odds_75 (by decide) ?_
    exact w_X7_odds_79 g q X σ v1 v2 v3 v4 v8 t0 (1 : Int64) v6 rc43 hrc43 hD _ _ _ I (lv_sub hl [1, 2, 3, 4, 5, 7, 0] rfl)
def D_X7_odds_43b (σ : St) (rc43 : Int64 → Int64 → Int32 → Option Int64) (v1 : Int32) (v2 : Int32) (v3 : Int32) (v4 : Int64) (v6 : Int64) (v8 : Int32) : Option Int64 := if (32 : Int32) ≤ v8 then D_X7_odds_114 σ v3 v4 v6 else (D_X7_noSetOf σ v1 v8).bind fun y31 => if y31 = 0 then D_X7_odds_65 σ rc43 v1 v2 v3 v4 v6 v8 (1 : Int32) else D_X7_odds_65 σ rc43 v1 v2 v3 v4 v6 v8 (0 : Int32)
set_option maxRecDepth 100000 in
set_option maxHeartbeats 4000000 in
theorem w_X7_odds_43b {p : Program} {l : Launch} {e : Env} {s : State} {m : MethodId} {args : Array Value} {below : List Frame} {meth : Method} {c : Code} (g : Gh) (q : Nat → Nat) (X : MX p s m args meth c cX7_odds 10 (some .long) RX7) {rr : Int64} (σ : St)  (v1 : Int32) (v2 : Int32) (v3 : Int32) (v4 : Int64) (v6 : Int64) (v8 : Int32) (rc43 : Int64 → Int64 → Int32 → Option Int64) (hrc43 : ∀ (v4' : Int64) (v6' : Int64) (v8' : Int32), rc43 v4' v6' v8' = some rr → ∀ (H : Heap) (locs : List Loc) (ls : Array Slot), IM g q s σ H locs → lv_has ls 10 [(0, .ref (q 0)), (1, .int v1), (2, .int v2), (3, .int v3), (4, .long v4'), (6, .long v6'), (8, .int v8')] → W p l e (rmD 2) s m args below meth c H locs 0 0 (MQ below (QL g (eM g q) q 22 rr σ s.heap.size) args s 0 0 (AQ q 22 s.heap.size)) (F0 m 43 ls [])) (hD : D_X7_odds_43b σ rc43 v1 v2 v3 v4 v6 v8 = some rr) (H : Heap) (locs : List Loc) (ls : Array Slot) (I : IM g q s σ H locs) (hl : lv_has ls 10 [(0, .ref (q 0)), (1, .int v1), (2, .int v2), (3, .int v3), (4, .long v4), (6, .long v6), (8, .int v8)]) : W p l e (rmD 2) s m args below meth c H locs 0 0 (MQ below (QL g (eM g q) q 22 rr σ s.heap.size) args s 0 0 (AQ q 22 s.heap.size)) (F0 m 43 ls []) := by
  have hx := X.1
  have hb := X.2.1
  unfold D_X7_odds_43b at hD
  refine lv_iload hx hb dX7_odds_43 (lv_at hl 6 rfl) ?_
  refine lv_bipush (v := 32) hx hb dX7_odds_45 (by decide) ?_
  refine lv_icmp_ge (tgt := 114) hx hb dX7_odds_47 (by decide) (fun hc27 => ?_) (fun hc27 => ?_)
  · have hD := ite_p hc27 hD
    exact w_X7_odds_114 g q X σ v3 v4 v6 hD _ _ _ I (lv_sub hl [3, 4, 5] rfl)
  · have hD := ite_n hc27 hD
    refine lv_aload_n hx hb dX7_odds_50 rfl (lv_at hl 0 rfl) ?_
    refine lv_iload_n hx hb dX7_odds_51 rfl (lv_at hl 1 rfl) ?_
    refine lv_iload hx hb dX7_odds_52 (lv_at hl 6 rfl) ?_
    obtain ⟨y31, hy31, hD⟩ := bd_s hD
    refine r_calli (r_runV (As := [.int v1, .int v8]) (rest := []) X I (c_X7_noSetOf l g q _ σ v1 v8 hy31) kv_X7_noSetOf ml_X7_174 rfl (by decide) (eM_Model g q _) ⟨Nat.le_of_ble_eq_true rfl, Nat.le_of_ble_eq_true rfl⟩ ⟨Nat.zero_le _, Nat.zero_le _⟩ rfl rfl hl.1 (Nat.le_of_ble_eq_true rfl) dX7_odds_54) I (fun H locs I => ?_)
    refine lv_if_ne (tgt := 64) hx hb dX7_odds_57 (by decide) (fun hc32 => ?_) (fun hc32 => ?_)
    · have hD := ite_n hc32 hD
      refine lv_iconst (v := 0) hx hb dX7_odds_64 (by decide) ?_
      exact w_X7_odds_65 g q X σ v1 v2 v3 v4 v6 v8 (0 : Int32) rc43 hrc43 hD _ _ _ I (lv_sub hl [0, 1, 2, 3, 4, 5, 6] rfl)
    · have hD := ite_p hc32 hD
      refine lv_iconst (v := 1) hx hb dX7_odds_60 (by decide) ?_
      refine lv_goto (tgt := 65) hx hb dX7_odds_61 (by decide) ?_
      exact w_X7_odds_65 g q X σ v1 v2 v3 v4 v6 v8 (1 : Int32) rc43 hrc43 hD _ _ _ I (lv_sub hl [0, 1, 2, 3, 4, 5, 6] rfl)
def D_X7_odds_43 (σ : St) (v1 : Int32) (v2 : Int32) (v3 : Int32) : Nat → Int64 → Int64 → Int32 → Option Int64
  | 0 => fun _ _ _ => none
  | n + 1 => fun v4 v6 v8 => D_X7_odds_43b σ (D_X7_odds_43 σ v1 v2 v3 n) v1 v2 v3 v4 v6 v8
set_option maxRecDepth 100000 in
set_option maxHeartbeats 4000000 in
theorem w_X7_odds_43 {p : Program} {l : Launch} {e : Env} {s : State} {m : MethodId} {args : Array Value} {below : List Frame} {meth : Method} {c : Code} (g : Gh) (q : Nat → Nat) (X : MX p s m args meth c cX7_odds 10 (some .long) RX7) {rr : Int64} (σ : St)  (v1 : Int32) (v2 : Int32) (v3 : Int32) : ∀ (n : Nat) (v4 : Int64) (v6 : Int64) (v8 : Int32), D_X7_odds_43 σ v1 v2 v3 n v4 v6 v8 = some rr → ∀ (H : Heap) (locs : List Loc) (ls : Array Slot), IM g q s σ H locs → lv_has ls 10 [(0, .ref (q 0)), (1, .int v1), (2, .int v2), (3, .int v3), (4, .long v4), (6, .long v6), (8, .int v8)] → W p l e (rmD 2) s m args below meth c H locs 0 0 (MQ below (QL g (eM g q) q 22 rr σ s.heap.size) args s 0 0 (AQ q 22 s.heap.size)) (F0 m 43 ls []) := by
  intro n
  induction n with
  | zero =>
    intro v4 v6 v8 hD H locs ls I hl
    cases hD
  | succ n ih =>
    intro v4 v6 v8 hD H locs ls I hl
    exact w_X7_odds_43b g q X σ v1 v2 v3 v4 v6 v8 _ ih hD H locs ls I hl
def D_X7_odds_30 (σ : St) : Option Int64 := (D_X7_lost σ).bind fun y23 => some y23
set_option maxRecDepth 100000 in
set_option maxHeartbeats 4000000 in
theorem w_X7_odds_30 {p : Program} {l : Launch} {e : Env} {s : State} {m : MethodId} {args : Array Value} {below : List Frame} {meth : Method} {c : Code} (g : Gh) (q : Nat → Nat) (X : MX p s m args meth c cX7_odds 10 (some .long) RX7) {rr : Int64} (σ : St)  (hD : D_X7_odds_30 σ = some rr) (H : Heap) (locs : List Loc) (ls : Array Slot) (I : IM g q s σ H locs) (hl : lv_has ls 10 []) : W p l e (rmD 2) s m args below meth c H locs 0 0 (MQ below (QL g (eM g q) q 22 rr σ s.heap.size) args s 0 0 (AQ q 22 s.heap.size)) (F0 m 30 ls []) := by
  have hx := X.1
  have hb := X.2.1
  unfold D_X7_odds_30 at hD
  obtain ⟨y23, hy23, hD⟩ := bd_s hD
  refine r_calll (r_runS (As := []) (rest := []) X I (c_X7_lost l g q _ σ hy23) ks_X7_lost ml_X7_80 ⟨Nat.le_of_ble_eq_true rfl, Nat.le_of_ble_eq_true rfl⟩ ⟨Nat.zero_le _, Nat.zero_le _⟩ rfl rfl hl.1 (Nat.le_of_ble_eq_true rfl) dX7_odds_30) I (fun H locs I => ?_)
  exact r_lret X I hD dX7_odds_33
def D_X7_odds (σ : St) (p1 : Int32) (p2 : Int32) (p3 : Int32) : Option Int64 := (D_X7_noRider σ p1).bind fun y3 => if y3 = 0 then (D_X7_in σ p2.toInt64 (0 : Int64) (199 : Int64)).bind fun y9 => if y9 = 0 then D_X7_odds_30 σ else (D_X7_in σ p3.toInt64 (0 : Int64) (1 : Int64)).bind fun y15 => if y15 = 0 then D_X7_odds_30 σ else D_X7_odds_43 σ p1 p2 p3 FU (0 : Int64) (0 : Int64) (0 : Int32) else D_X7_odds_30 σ
set_option maxRecDepth 100000 in
set_option maxHeartbeats 4000000 in
theorem c_X7_odds (l : Launch) (g : Gh) (q : Nat → Nat) (sz : Nat) (σ : St) (p1 : Int32) (p2 : Int32) (p3 : Int32) {rr : Int64} (hD : D_X7_odds σ p1 p2 p3 = some rr) : Met l yX7_odds (wU yX7_odds cX7_odds 10 (some .long)) (rmD 2) (PQ g (eM g q) q 22 σ sz [.ref (q 0), .int p1, .int p2, .int p3]) (QL g (eM g q) q 22 rr σ sz) 0 0 (AQ q 22 sz) := by
  refine met_of (Qc := QL g (eM g q) q 22 rr σ) (by decide) (Nat.le_of_ble_eq_true rfl) ?_
  intro p e s m below meth c ls X I hl
  have hx := X.1
  have hb := X.2.1
  have hl : lv_has ls 10 [(0, .ref (q 0)), (1, .int p1), (2, .int p2), (3, .int p3)] := hl
  unfold D_X7_odds at hD
  refine lv_aload_n hx hb dX7_odds_0 rfl (lv_at hl 0 rfl) ?_
  refine lv_iload_n hx hb dX7_odds_1 rfl (lv_at hl 1 rfl) ?_
  obtain ⟨y3, hy3, hD⟩ := bd_s hD
  refine r_calli (r_runV (As := [.int p1]) (rest := []) X I (c_X7_noRider l g q _ σ p1 hy3) kv_X7_noRider ml_X7_158 rfl (by decide) (eM_Model g q _) ⟨Nat.le_of_ble_eq_true rfl, Nat.le_of_ble_eq_true rfl⟩ ⟨Nat.zero_le _, Nat.zero_le _⟩ rfl rfl hl.1 (Nat.le_of_ble_eq_true rfl) dX7_odds_2) I (fun H locs I => ?_)
  refine lv_if_ne (tgt := 30) hx hb dX7_odds_5 (by decide) (fun hc4 => ?_) (fun hc4 => ?_)
  · have hD := ite_n hc4 hD
    exact w_X7_odds_30 g q X σ hD _ _ _ I (lv_sub hl [] rfl)
  · have hD := ite_p hc4 hD
    refine lv_iload_n hx hb dX7_odds_8 rfl (lv_at hl 2 rfl) ?_
    refine lv_i2l hx hb dX7_odds_9 rfl ?_
    refine lv_lconst (v := 0) hx hb dX7_odds_10 rfl ?_
    refine lv_ldc2 (v := 199) hx hb X.2.2.2.2.1 (X.2.2.2.2.2.1 _ cl_X7_200) dX7_odds_11 ?_
    obtain ⟨y9, hy9, hD⟩ := bd_s hD
    refine r_calli (r_runS (As := [.long p2.toInt64, .long (0 : Int64), .long (199 : Int64)]) (rest := []) X I (c_X7_in l g q _ σ p2.toInt64 (0 : Int64) (199 : Int64) hy9) ks_X7_in ml_X7_87 ⟨Nat.le_of_ble_eq_true rfl, Nat.le_of_ble_eq_true rfl⟩ ⟨Nat.zero_le _, Nat.zero_le _⟩ rfl rfl hl.1 (Nat.le_of_ble_eq_true rfl) dX7_odds_14) I (fun H locs I => ?_)
    refine lv_if_eq (tgt := 30) hx hb dX7_odds_17 (by decide) (fun hc10 => ?_) (fun hc10 => ?_)
    · have hD := ite_p hc10 hD
      exact w_X7_odds_30 g q X σ hD _ _ _ I (lv_sub hl [] rfl)
    · have hD := ite_n hc10 hD
      refine lv_iload_n hx hb dX7_odds_20 rfl (lv_at hl 3 rfl) ?_
      refine lv_i2l hx hb dX7_odds_21 rfl ?_
      refine lv_lconst (v := 0) hx hb dX7_odds_22 rfl ?_
      refine lv_lconst (v := 1) hx hb dX7_odds_23 rfl ?_
      obtain ⟨y15, hy15, hD⟩ := bd_s hD
      refine r_calli (r_runS (As := [.long p3.toInt64, .long (0 : Int64), .long (1 : Int64)]) (rest := []) X I (c_X7_in l g q _ σ p3.toInt64 (0 : Int64) (1 : Int64) hy15) ks_X7_in ml_X7_87 ⟨Nat.le_of_ble_eq_true rfl, Nat.le_of_ble_eq_true rfl⟩ ⟨Nat.zero_le _, Nat.zero_le _⟩ rfl rfl hl.1 (Nat.le_of_ble_eq_true rfl) dX7_odds_24) I (fun H locs I => ?_)
      refine lv_if_ne (tgt := 34) hx hb dX7_odds_27 (by decide) (fun hc16 => ?_) (fun hc16 => ?_)
      · have hD := ite_n hc16 hD
        refine lv_lconst (v := 0) hx hb dX7_odds_34 rfl ?_
        refine lv_lstore (lv' := [(4, .long (0 : Int64)), (0, .ref (q 0)), (1, .int p1), (2, .int p2), (3, .int p3)]) hx hb dX7_odds_35 hl (by decide) rfl (fun ls hl => ?_)
        refine lv_lconst (v := 0) hx hb dX7_odds_37 rfl ?_
        refine lv_lstore (lv' := [(6, .long (0 : Int64)), (4, .long (0 : Int64)), (0, .ref (q 0)), (1, .int p1), (2, .int p2), (3, .int p3)]) hx hb dX7_odds_38 hl (by decide) rfl (fun ls hl => ?_)
        refine lv_iconst (v := 0) hx hb dX7_odds_40 (by decide) ?_
        refine lv_istore (lv' := [(8, .int (0 : Int32)), (6, .long (0 : Int64)), (4, .long (0 : Int64)), (0, .ref (q 0)), (1, .int p1), (2, .int p2), (3, .int p3)]) hx hb dX7_odds_41 hl (by decide) rfl (fun ls hl => ?_)
        exact w_X7_odds_43 g q X σ p1 p2 p3 FU (0 : Int64) (0 : Int64) (0 : Int32) hD _ _ _ I (lv_sub hl [3, 4, 5, 6, 2, 1, 0] rfl)
      · have hD := ite_p hc16 hD
        exact w_X7_odds_30 g q X σ hD _ _ _ I (lv_sub hl [] rfl)

/-! YearDeckModel.sheet(III)I -/
def D_X7_sheet_90 (σ : St) : Option (Int32 × St) := (D_X7_refused σ (1 : Int32)).bind fun y55 => some (y55.1, y55.2)
set_option maxRecDepth 100000 in
set_option maxHeartbeats 4000000 in
theorem w_X7_sheet_90 {p : Program} {l : Launch} {e : Env} {s : State} {m : MethodId} {args : Array Value} {below : List Frame} {meth : Method} {c : Code} (g : Gh) (q : Nat → Nat) (X : MX p s m args meth c cX7_sheet 5 (some .int) RX7) {rr : (Int32 × St)} (σ : St)  (hD : D_X7_sheet_90 σ = some rr) (H : Heap) (locs : List Loc) (ls : Array Slot) (I : IM g q s σ H locs) (hl : lv_has ls 5 [(0, .ref (q 0))]) : W p l e (rmD 2) s m args below meth c H locs 0 0 (MQ below (QI g (eM g q) q 22 rr.1 rr.2 s.heap.size) args s 0 0 (AQ q 22 s.heap.size)) (F0 m 90 ls []) := by
  have hx := X.1
  have hb := X.2.1
  unfold D_X7_sheet_90 at hD
  refine lv_aload_n hx hb dX7_sheet_90 rfl (lv_at hl 0 rfl) ?_
  refine lv_iconst (v := 1) hx hb dX7_sheet_91 (by decide) ?_
  obtain ⟨y55, hy55, hD⟩ := bd_s hD
  refine r_calli (r_runV (As := [.int (1 : Int32)]) (rest := []) X I (c_X7_refused l g q _ σ (1 : Int32) hy55) kv_X7_refused ml_X7_140 rfl (by decide) (eM_Model g q _) ⟨Nat.le_of_ble_eq_true rfl, Nat.le_of_ble_eq_true rfl⟩ ⟨Nat.zero_le _, Nat.zero_le _⟩ rfl rfl hl.1 (Nat.le_of_ble_eq_true rfl) dX7_sheet_92) I (fun H locs I => ?_)
  exact r_iret2 X I hD dX7_sheet_95
def D_X7_sheet_65b (σ : St) (rc65 : St → Int32 → Option (Int32 × St)) (v1 : Int32) (v3 : Int32) (v4 : Int32) : Option (Int32 × St) := if v3 ≤ v4 then D_X7_sheet_90 σ else gd (inb (((60 : Int32) * v1) + v4) 240) (rc65 (up2 σ 20 (((60 : Int32) * v1) + v4).toNatClampNeg (0 : Int32)) (v4 + (1 : Int32)))
set_option maxRecDepth 100000 in
set_option maxHeartbeats 4000000 in
theorem w_X7_sheet_65b {p : Program} {l : Launch} {e : Env} {s : State} {m : MethodId} {args : Array Value} {below : List Frame} {meth : Method} {c : Code} (g : Gh) (q : Nat → Nat) (X : MX p s m args meth c cX7_sheet 5 (some .int) RX7) {rr : (Int32 × St)} (σ : St)  (v1 : Int32) (v3 : Int32) (v4 : Int32) (rc65 : St → Int32 → Option (Int32 × St)) (hrc65 : ∀ (σ' : St) (v4' : Int32), rc65 σ' v4' = some rr → ∀ (H : Heap) (locs : List Loc) (ls : Array Slot), IM g q s σ' H locs → lv_has ls 5 [(0, .ref (q 0)), (1, .int v1), (3, .int v3), (4, .int v4')] → W p l e (rmD 2) s m args below meth c H locs 0 0 (MQ below (QI g (eM g q) q 22 rr.1 rr.2 s.heap.size) args s 0 0 (AQ q 22 s.heap.size)) (F0 m 65 ls [])) (hD : D_X7_sheet_65b σ rc65 v1 v3 v4 = some rr) (H : Heap) (locs : List Loc) (ls : Array Slot) (I : IM g q s σ H locs) (hl : lv_has ls 5 [(0, .ref (q 0)), (1, .int v1), (3, .int v3), (4, .int v4)]) : W p l e (rmD 2) s m args below meth c H locs 0 0 (MQ below (QI g (eM g q) q 22 rr.1 rr.2 s.heap.size) args s 0 0 (AQ q 22 s.heap.size)) (F0 m 65 ls []) := by
  have hx := X.1
  have hb := X.2.1
  unfold D_X7_sheet_65b at hD
  refine lv_iload hx hb dX7_sheet_65 (lv_at hl 3 rfl) ?_
  refine lv_iload_n hx hb dX7_sheet_67 rfl (lv_at hl 2 rfl) ?_
  refine lv_icmp_ge (tgt := 90) hx hb dX7_sheet_68 (by decide) (fun hc41 => ?_) (fun hc41 => ?_)
  · have hD := ite_p hc41 hD
    exact w_X7_sheet_90 g q X σ hD _ _ _ I (lv_sub hl [0] rfl)
  · have hD := ite_n hc41 hD
    refine lv_aload_n hx hb dX7_sheet_71 rfl (lv_at hl 0 rfl) ?_
    refine g_Model_sheet X I fl_X7_68 dX7_sheet_72 ?_
    refine lv_bipush (v := 60) hx hb dX7_sheet_75 (by decide) ?_
    refine lv_iload_n hx hb dX7_sheet_77 rfl (lv_at hl 1 rfl) ?_
    refine lv_imul hx hb dX7_sheet_78 ?_
    refine lv_iload hx hb dX7_sheet_79 (lv_at hl 3 rfl) ?_
    refine lv_iadd hx hb dX7_sheet_81 ?_
    refine lv_iconst (v := 0) hx hb dX7_sheet_82 (by decide) ?_
    obtain ⟨hg50, hD⟩ := gd_s hD
    refine r_iast (eM_loc g q) X I (by decide) (eMa_20 g q) hg50 dX7_sheet_83 (fun H locs I => ?_)
    refine lv_iinc (v := v4 + (1 : Int32)) (lv' := [(4, .int (v4 + (1 : Int32))), (0, .ref (q 0)), (1, .int v1), (3, .int v3)]) hx hb dX7_sheet_84 hl (k := 3) rfl rfl (by decide) rfl (fun ls hl => ?_)
    refine lv_goto (tgt := 65) hx hb dX7_sheet_87 (by decide) ?_
    exact hrc65 (up2 σ 20 (((60 : Int32) * v1) + v4).toNatClampNeg (0 : Int32)) (v4 + (1 : Int32)) hD _ _ _ I (lv_sub hl [1, 2, 3, 0] rfl)
def D_X7_sheet_65  (v1 : Int32) (v3 : Int32) : Nat → St → Int32 → Option (Int32 × St)
  | 0 => fun _ _ => none
  | n + 1 => fun σ v4 => D_X7_sheet_65b σ (D_X7_sheet_65 v1 v3 n) v1 v3 v4
set_option maxRecDepth 100000 in
set_option maxHeartbeats 4000000 in
theorem w_X7_sheet_65 {p : Program} {l : Launch} {e : Env} {s : State} {m : MethodId} {args : Array Value} {below : List Frame} {meth : Method} {c : Code} (g : Gh) (q : Nat → Nat) (X : MX p s m args meth c cX7_sheet 5 (some .int) RX7) {rr : (Int32 × St)}  (v1 : Int32) (v3 : Int32) : ∀ (n : Nat) (σ : St) (v4 : Int32), D_X7_sheet_65 v1 v3 n σ v4 = some rr → ∀ (H : Heap) (locs : List Loc) (ls : Array Slot), IM g q s σ H locs → lv_has ls 5 [(0, .ref (q 0)), (1, .int v1), (3, .int v3), (4, .int v4)] → W p l e (rmD 2) s m args below meth c H locs 0 0 (MQ below (QI g (eM g q) q 22 rr.1 rr.2 s.heap.size) args s 0 0 (AQ q 22 s.heap.size)) (F0 m 65 ls []) := by
  intro n
  induction n with
  | zero =>
    intro σ v4 hD H locs ls I hl
    cases hD
  | succ n ih =>
    intro σ v4 hD H locs ls I hl
    exact w_X7_sheet_65b g q X σ v1 v3 v4 _ ih hD H locs ls I hl
def D_X7_sheet_31 (σ : St) : Option (Int32 × St) := (D_X7_refused σ (-2 : Int32)).bind fun y37 => some (y37.1, y37.2)
set_option maxRecDepth 100000 in
set_option maxHeartbeats 4000000 in
theorem w_X7_sheet_31 {p : Program} {l : Launch} {e : Env} {s : State} {m : MethodId} {args : Array Value} {below : List Frame} {meth : Method} {c : Code} (g : Gh) (q : Nat → Nat) (X : MX p s m args meth c cX7_sheet 5 (some .int) RX7) {rr : (Int32 × St)} (σ : St)  (hD : D_X7_sheet_31 σ = some rr) (H : Heap) (locs : List Loc) (ls : Array Slot) (I : IM g q s σ H locs) (hl : lv_has ls 5 [(0, .ref (q 0))]) : W p l e (rmD 2) s m args below meth c H locs 0 0 (MQ below (QI g (eM g q) q 22 rr.1 rr.2 s.heap.size) args s 0 0 (AQ q 22 s.heap.size)) (F0 m 31 ls []) := by
  have hx := X.1
  have hb := X.2.1
  unfold D_X7_sheet_31 at hD
  refine lv_aload_n hx hb dX7_sheet_31 rfl (lv_at hl 0 rfl) ?_
  refine lv_bipush (v := -2) hx hb dX7_sheet_32 (by decide) ?_
  obtain ⟨y37, hy37, hD⟩ := bd_s hD
  refine r_calli (r_runV (As := [.int (-2 : Int32)]) (rest := []) X I (c_X7_refused l g q _ σ (-2 : Int32) hy37) kv_X7_refused ml_X7_140 rfl (by decide) (eM_Model g q _) ⟨Nat.le_of_ble_eq_true rfl, Nat.le_of_ble_eq_true rfl⟩ ⟨Nat.zero_le _, Nat.zero_le _⟩ rfl rfl hl.1 (Nat.le_of_ble_eq_true rfl) dX7_sheet_34) I (fun H locs I => ?_)
  exact r_iret2 X I hD dX7_sheet_37
def D_X7_sheet (σ : St) (p1 : Int32) (p2 : Int32) (p3 : Int32) : Option (Int32 × St) := (D_X7_noSheet σ p1).bind fun y2 => if y2 = 0 then (D_X7_in σ p2.toInt64 (0 : Int64) (2 : Int64)).bind fun y8 => if y8 = 0 then D_X7_sheet_31 σ else if p3 ≤ (60 : Int32) then if 0 ≤ p3 then gd (inb p1 4) (gd (inb p1 4) (D_X7_sheet_65 p1 p3 FU (up2 (up2 σ 18 p1.toNatClampNeg p3) 19 p1.toNatClampNeg p2) (0 : Int32))) else (D_X7_failed σ (4 : Int32)).bind fun y29 => some (y29.1, y29.2) else D_X7_sheet_31 σ else (D_X7_refused σ (-1 : Int32)).bind fun y33 => some (y33.1, y33.2)
set_option maxRecDepth 100000 in
set_option maxHeartbeats 4000000 in
theorem c_X7_sheet (l : Launch) (g : Gh) (q : Nat → Nat) (sz : Nat) (σ : St) (p1 : Int32) (p2 : Int32) (p3 : Int32) {rr : (Int32 × St)} (hD : D_X7_sheet σ p1 p2 p3 = some rr) : Met l yX7_sheet (wU yX7_sheet cX7_sheet 5 (some .int)) (rmD 2) (PQ g (eM g q) q 22 σ sz [.ref (q 0), .int p1, .int p2, .int p3]) (QI g (eM g q) q 22 rr.1 rr.2 sz) 0 0 (AQ q 22 sz) := by
  refine met_of (Qc := QI g (eM g q) q 22 rr.1 rr.2) (by decide) (Nat.le_of_ble_eq_true rfl) ?_
  intro p e s m below meth c ls X I hl
  have hx := X.1
  have hb := X.2.1
  have hl : lv_has ls 5 [(0, .ref (q 0)), (1, .int p1), (2, .int p2), (3, .int p3)] := hl
  unfold D_X7_sheet at hD
  refine lv_iload_n hx hb dX7_sheet_0 rfl (lv_at hl 1 rfl) ?_
  obtain ⟨y2, hy2, hD⟩ := bd_s hD
  refine r_calli (r_runS (As := [.int p1]) (rest := []) X I (c_X7_noSheet l g q _ σ p1 hy2) ks_X7_noSheet ml_X7_136 ⟨Nat.le_of_ble_eq_true rfl, Nat.le_of_ble_eq_true rfl⟩ ⟨Nat.zero_le _, Nat.zero_le _⟩ rfl rfl hl.1 (Nat.le_of_ble_eq_true rfl) dX7_sheet_1) I (fun H locs I => ?_)
  refine lv_if_eq (tgt := 13) hx hb dX7_sheet_4 (by decide) (fun hc3 => ?_) (fun hc3 => ?_)
  · have hD := ite_p hc3 hD
    refine lv_iload_n hx hb dX7_sheet_13 rfl (lv_at hl 2 rfl) ?_
    refine lv_i2l hx hb dX7_sheet_14 rfl ?_
    refine lv_lconst (v := 0) hx hb dX7_sheet_15 rfl ?_
    refine lv_ldc2 (v := 2) hx hb X.2.2.2.2.1 (X.2.2.2.2.2.1 _ cl_X7_143) dX7_sheet_16 ?_
    obtain ⟨y8, hy8, hD⟩ := bd_s hD
    refine r_calli (r_runS (As := [.long p2.toInt64, .long (0 : Int64), .long (2 : Int64)]) (rest := []) X I (c_X7_in l g q _ σ p2.toInt64 (0 : Int64) (2 : Int64) hy8) ks_X7_in ml_X7_87 ⟨Nat.le_of_ble_eq_true rfl, Nat.le_of_ble_eq_true rfl⟩ ⟨Nat.zero_le _, Nat.zero_le _⟩ rfl rfl hl.1 (Nat.le_of_ble_eq_true rfl) dX7_sheet_19) I (fun H locs I => ?_)
    refine lv_if_eq (tgt := 31) hx hb dX7_sheet_22 (by decide) (fun hc9 => ?_) (fun hc9 => ?_)
    · have hD := ite_p hc9 hD
      exact w_X7_sheet_31 g q X σ hD _ _ _ I (lv_sub hl [0] rfl)
    · have hD := ite_n hc9 hD
      refine lv_iload_n hx hb dX7_sheet_25 rfl (lv_at hl 3 rfl) ?_
      refine lv_bipush (v := 60) hx hb dX7_sheet_26 (by decide) ?_
      refine lv_icmp_le (tgt := 38) hx hb dX7_sheet_28 (by decide) (fun hc12 => ?_) (fun hc12 => ?_)
      · have hD := ite_p hc12 hD
        refine lv_iload_n hx hb dX7_sheet_38 rfl (lv_at hl 3 rfl) ?_
        refine lv_if_ge (tgt := 48) hx hb dX7_sheet_39 (by decide) (fun hc14 => ?_) (fun hc14 => ?_)
        · have hD := ite_p hc14 hD
          refine lv_aload_n hx hb dX7_sheet_48 rfl (lv_at hl 0 rfl) ?_
          refine g_Model_sheetSize X I fl_X7_62 dX7_sheet_49 ?_
          refine lv_iload_n hx hb dX7_sheet_52 rfl (lv_at hl 1 rfl) ?_
          refine lv_iload_n hx hb dX7_sheet_53 rfl (lv_at hl 3 rfl) ?_
          obtain ⟨hg19, hD⟩ := gd_s hD
          refine r_iast (eM_loc g q) X I (by decide) (eMa_18 g q) hg19 dX7_sheet_54 (fun H locs I => ?_)
          refine lv_aload_n hx hb dX7_sheet_55 rfl (lv_at hl 0 rfl) ?_
          refine g_Model_sheetLane X I fl_X7_65 dX7_sheet_56 ?_
          refine lv_iload_n hx hb dX7_sheet_59 rfl (lv_at hl 1 rfl) ?_
          refine lv_iload_n hx hb dX7_sheet_60 rfl (lv_at hl 2 rfl) ?_
          obtain ⟨hg24, hD⟩ := gd_s hD
          refine r_iast (eM_loc g q) X I (by decide) (eMa_19 g q) hg24 dX7_sheet_61 (fun H locs I => ?_)
          refine lv_iconst (v := 0) hx hb dX7_sheet_62 (by decide) ?_
          refine lv_istore (lv' := [(4, .int (0 : Int32)), (0, .ref (q 0)), (1, .int p1), (2, .int p2), (3, .int p3)]) hx hb dX7_sheet_63 hl (by decide) rfl (fun ls hl => ?_)
          exact w_X7_sheet_65 g q X p1 p3 FU (up2 (up2 σ 18 p1.toNatClampNeg p3) 19 p1.toNatClampNeg p2) (0 : Int32) hD _ _ _ I (lv_sub hl [1, 2, 4, 0] rfl)
        · have hD := ite_n hc14 hD
          refine lv_aload_n hx hb dX7_sheet_42 rfl (lv_at hl 0 rfl) ?_
          refine lv_iconst (v := 4) hx hb dX7_sheet_43 (by decide) ?_
          obtain ⟨y29, hy29, hD⟩ := bd_s hD
          refine r_calli (r_runV (As := [.int (4 : Int32)]) (rest := []) X I (c_X7_failed l g q _ σ (4 : Int32) hy29) kv_X7_failed ml_X7_129 rfl (by decide) (eM_Model g q _) ⟨Nat.le_of_ble_eq_true rfl, Nat.le_of_ble_eq_true rfl⟩ ⟨Nat.zero_le _, Nat.zero_le _⟩ rfl rfl hl.1 (Nat.le_of_ble_eq_true rfl) dX7_sheet_44) I (fun H locs I => ?_)
          exact r_iret2 X I hD dX7_sheet_47
      · have hD := ite_n hc12 hD
        exact w_X7_sheet_31 g q X σ hD _ _ _ I (lv_sub hl [0] rfl)
  · have hD := ite_n hc3 hD
    refine lv_aload_n hx hb dX7_sheet_7 rfl (lv_at hl 0 rfl) ?_
    refine lv_iconst (v := -1) hx hb dX7_sheet_8 (by decide) ?_
    obtain ⟨y33, hy33, hD⟩ := bd_s hD
    refine r_calli (r_runV (As := [.int (-1 : Int32)]) (rest := []) X I (c_X7_refused l g q _ σ (-1 : Int32) hy33) kv_X7_refused ml_X7_140 rfl (by decide) (eM_Model g q _) ⟨Nat.le_of_ble_eq_true rfl, Nat.le_of_ble_eq_true rfl⟩ ⟨Nat.zero_le _, Nat.zero_le _⟩ rfl rfl hl.1 (Nat.le_of_ble_eq_true rfl) dX7_sheet_9) I (fun H locs I => ?_)
    exact r_iret2 X I hD dX7_sheet_12

/-! YearDeckModel.lose(I)I -/
def D_X7_lose_23 (σ : St) (v1 : Int32) (t0 : Int32) : Option (Int32 × St) := gd (inb v1 4) (some (t0, up2 σ 18 v1.toNatClampNeg (-1 : Int32)))
set_option maxRecDepth 100000 in
set_option maxHeartbeats 4000000 in
theorem w_X7_lose_23 {p : Program} {l : Launch} {e : Env} {s : State} {m : MethodId} {args : Array Value} {below : List Frame} {meth : Method} {c : Code} (g : Gh) (q : Nat → Nat) (X : MX p s m args meth c cX7_lose 3 (some .int) RX7) {rr : (Int32 × St)} (σ : St)  (v1 : Int32) (t0 : Int32) (hD : D_X7_lose_23 σ v1 t0 = some rr) (H : Heap) (locs : List Loc) (ls : Array Slot) (I : IM g q s σ H locs) (hl : lv_has ls 3 [(0, .ref (q 0)), (1, .int v1)]) : W p l e (rmD 2) s m args below meth c H locs 0 0 (MQ below (QI g (eM g q) q 22 rr.1 rr.2 s.heap.size) args s 0 0 (AQ q 22 s.heap.size)) (F0 m 23 ls [.int t0]) := by
  have hx := X.1
  have hb := X.2.1
  unfold D_X7_lose_23 at hD
  refine lv_istore_n (lv' := [(2, .int t0), (0, .ref (q 0)), (1, .int v1)]) hx hb dX7_lose_23 rfl hl (by decide) rfl (fun ls hl => ?_)
  refine lv_aload_n hx hb dX7_lose_24 rfl (lv_at hl 1 rfl) ?_
  refine g_Model_sheetSize X I fl_X7_62 dX7_lose_25 ?_
  refine lv_iload_n hx hb dX7_lose_28 rfl (lv_at hl 2 rfl) ?_
  refine lv_iconst (v := -1) hx hb dX7_lose_29 (by decide) ?_
  obtain ⟨hg19, hD⟩ := gd_s hD
  refine r_iast (eM_loc g q) X I (by decide) (eMa_18 g q) hg19 dX7_lose_30 (fun H locs I => ?_)
  refine lv_iload_n hx hb dX7_lose_31 rfl (lv_at hl 0 rfl) ?_
  exact r_iret2 X I hD dX7_lose_32
def D_X7_lose (σ : St) (p1 : Int32) : Option (Int32 × St) := (D_X7_noSheet σ p1).bind fun y2 => if y2 = 0 then gd (inb p1 4) (if 0 ≤ (σ 18 p1.toNatClampNeg) then D_X7_lose_23 σ p1 (1 : Int32) else D_X7_lose_23 σ p1 (0 : Int32)) else some ((-1 : Int32), σ)
set_option maxRecDepth 100000 in
set_option maxHeartbeats 4000000 in
theorem c_X7_lose (l : Launch) (g : Gh) (q : Nat → Nat) (sz : Nat) (σ : St) (p1 : Int32) {rr : (Int32 × St)} (hD : D_X7_lose σ p1 = some rr) : Met l yX7_lose (wU yX7_lose cX7_lose 3 (some .int)) (rmD 2) (PQ g (eM g q) q 22 σ sz [.ref (q 0), .int p1]) (QI g (eM g q) q 22 rr.1 rr.2 sz) 0 0 (AQ q 22 sz) := by
  refine met_of (Qc := QI g (eM g q) q 22 rr.1 rr.2) (by decide) (Nat.le_of_ble_eq_true rfl) ?_
  intro p e s m below meth c ls X I hl
  have hx := X.1
  have hb := X.2.1
  have hl : lv_has ls 3 [(0, .ref (q 0)), (1, .int p1)] := hl
  unfold D_X7_lose at hD
  refine lv_iload_n hx hb dX7_lose_0 rfl (lv_at hl 1 rfl) ?_
  obtain ⟨y2, hy2, hD⟩ := bd_s hD
  refine r_calli (r_runS (As := [.int p1]) (rest := []) X I (c_X7_noSheet l g q _ σ p1 hy2) ks_X7_noSheet ml_X7_136 ⟨Nat.le_of_ble_eq_true rfl, Nat.le_of_ble_eq_true rfl⟩ ⟨Nat.zero_le _, Nat.zero_le _⟩ rfl rfl hl.1 (Nat.le_of_ble_eq_true rfl) dX7_lose_1) I (fun H locs I => ?_)
  refine lv_if_eq (tgt := 9) hx hb dX7_lose_4 (by decide) (fun hc3 => ?_) (fun hc3 => ?_)
  · have hD := ite_p hc3 hD
    refine lv_aload_n hx hb dX7_lose_9 rfl (lv_at hl 0 rfl) ?_
    refine g_Model_sheetSize X I fl_X7_62 dX7_lose_10 ?_
    refine lv_iload_n hx hb dX7_lose_13 rfl (lv_at hl 1 rfl) ?_
    obtain ⟨hg7, hD⟩ := gd_s hD
    refine r_iald X I (by decide) ((eMa_18 g q) _) hg7 dX7_lose_14 ?_
    refine lv_if_ge (tgt := 22) hx hb dX7_lose_15 (by decide) (fun hc8 => ?_) (fun hc8 => ?_)
    · have hD := ite_p hc8 hD
      refine lv_iconst (v := 1) hx hb dX7_lose_22 (by decide) ?_
      exact w_X7_lose_23 g q X σ p1 (1 : Int32) hD _ _ _ I (lv_sub hl [0, 1] rfl)
    · have hD := ite_n hc8 hD
      refine lv_iconst (v := 0) hx hb dX7_lose_18 (by decide) ?_
      refine lv_goto (tgt := 23) hx hb dX7_lose_19 (by decide) ?_
      exact w_X7_lose_23 g q X σ p1 (0 : Int32) hD _ _ _ I (lv_sub hl [0, 1] rfl)
  · have hD := ite_n hc3 hD
    refine lv_iconst (v := -1) hx hb dX7_lose_7 (by decide) ?_
    exact r_iret2 X I hD dX7_lose_8

/-! YearDeckModel.noCell(II)I -/
def D_X7_noCell (σ : St) (p1 : Int32) (p2 : Int32) : Option Int32 := gd (inb p1 4) (if 0 ≤ (σ 18 p1.toNatClampNeg) then gd (inb p1 4) ((D_X7_in σ p2.toInt64 (0 : Int64) (((σ 18 p1.toNatClampNeg).toInt64) - (1 : Int64))).bind fun y16 => if y16 = 0 then some (3 : Int32) else some (0 : Int32)) else some (1 : Int32))
set_option maxRecDepth 100000 in
set_option maxHeartbeats 4000000 in
theorem c_X7_noCell (l : Launch) (g : Gh) (q : Nat → Nat) (sz : Nat) (σ : St) (p1 : Int32) (p2 : Int32) {rr : Int32} (hD : D_X7_noCell σ p1 p2 = some rr) : Met l yX7_noCell (wU yX7_noCell cX7_noCell 3 (some .int)) (rmD 1) (PQ g (eM g q) q 22 σ sz [.ref (q 0), .int p1, .int p2]) (QI g (eM g q) q 22 rr σ sz) 0 0 (AQ q 22 sz) := by
  refine met_of (Qc := QI g (eM g q) q 22 rr σ) (by decide) (Nat.le_of_ble_eq_true rfl) ?_
  intro p e s m below meth c ls X I hl
  have hx := X.1
  have hb := X.2.1
  have hl : lv_has ls 3 [(0, .ref (q 0)), (1, .int p1), (2, .int p2)] := hl
  unfold D_X7_noCell at hD
  refine lv_aload_n hx hb dX7_noCell_0 rfl (lv_at hl 0 rfl) ?_
  refine g_Model_sheetSize X I fl_X7_62 dX7_noCell_1 ?_
  refine lv_iload_n hx hb dX7_noCell_4 rfl (lv_at hl 1 rfl) ?_
  obtain ⟨hg4, hD⟩ := gd_s hD
  refine r_iald X I (by decide) ((eMa_18 g q) _) hg4 dX7_noCell_5 ?_
  refine lv_if_ge (tgt := 13) hx hb dX7_noCell_6 (by decide) (fun hc5 => ?_) (fun hc5 => ?_)
  · have hD := ite_p hc5 hD
    refine lv_iload_n hx hb dX7_noCell_13 rfl (lv_at hl 2 rfl) ?_
    refine lv_i2l hx hb dX7_noCell_14 rfl ?_
    refine lv_lconst (v := 0) hx hb dX7_noCell_15 rfl ?_
    refine lv_aload_n hx hb dX7_noCell_16 rfl (lv_at hl 0 rfl) ?_
    refine g_Model_sheetSize X I fl_X7_62 dX7_noCell_17 ?_
    refine lv_iload_n hx hb dX7_noCell_20 rfl (lv_at hl 1 rfl) ?_
    obtain ⟨hg12, hD⟩ := gd_s hD
    refine r_iald X I (by decide) ((eMa_18 g q) _) hg12 dX7_noCell_21 ?_
    refine lv_i2l hx hb dX7_noCell_22 rfl ?_
    refine lv_lconst (v := 1) hx hb dX7_noCell_23 rfl ?_
    refine lv_lsub hx hb dX7_noCell_24 ?_
    obtain ⟨y16, hy16, hD⟩ := bd_s hD
    refine r_calli (r_runS (As := [.long p2.toInt64, .long (0 : Int64), .long (((σ 18 p1.toNatClampNeg).toInt64) - (1 : Int64))]) (rest := []) X I (c_X7_in l g q _ σ p2.toInt64 (0 : Int64) (((σ 18 p1.toNatClampNeg).toInt64) - (1 : Int64)) hy16) ks_X7_in ml_X7_87 ⟨Nat.le_of_ble_eq_true rfl, Nat.le_of_ble_eq_true rfl⟩ ⟨Nat.zero_le _, Nat.zero_le _⟩ rfl rfl hl.1 (Nat.le_of_ble_eq_true rfl) dX7_noCell_25) I (fun H locs I => ?_)
    refine lv_if_eq (tgt := 35) hx hb dX7_noCell_28 (by decide) (fun hc17 => ?_) (fun hc17 => ?_)
    · have hD := ite_p hc17 hD
      refine lv_iconst (v := 3) hx hb dX7_noCell_35 (by decide) ?_
      exact r_iret X I hD dX7_noCell_36
    · have hD := ite_n hc17 hD
      refine lv_iconst (v := 0) hx hb dX7_noCell_31 (by decide) ?_
      refine lv_goto (tgt := 36) hx hb dX7_noCell_32 (by decide) ?_
      exact r_iret X I hD dX7_noCell_36
  · have hD := ite_n hc5 hD
    refine lv_iconst (v := 1) hx hb dX7_noCell_9 (by decide) ?_
    refine lv_goto (tgt := 36) hx hb dX7_noCell_10 (by decide) ?_
    exact r_iret X I hD dX7_noCell_36

/-! YearDeckModel.put(III)I -/
def D_X7_put_73 (σ : St) (t0 : Int32) (t1 : Int32) : Option (Int32 × St) := gd (inb t1 240) ((D_X7_refused (up2 σ 20 t1.toNatClampNeg t0) (1 : Int32)).bind fun y48 => some (y48.1, y48.2))
set_option maxRecDepth 100000 in
set_option maxHeartbeats 4000000 in
theorem w_X7_put_73 {p : Program} {l : Launch} {e : Env} {s : State} {m : MethodId} {args : Array Value} {below : List Frame} {meth : Method} {c : Code} (g : Gh) (q : Nat → Nat) (X : MX p s m args meth c cX7_put 4 (some .int) RX7) {rr : (Int32 × St)} (σ : St)  (t0 : Int32) (t1 : Int32) (hD : D_X7_put_73 σ t0 t1 = some rr) (H : Heap) (locs : List Loc) (ls : Array Slot) (I : IM g q s σ H locs) (hl : lv_has ls 4 [(0, .ref (q 0))]) : W p l e (rmD 2) s m args below meth c H locs 0 0 (MQ below (QI g (eM g q) q 22 rr.1 rr.2 s.heap.size) args s 0 0 (AQ q 22 s.heap.size)) (F0 m 73 ls [.int t0, .int t1, .ref (q 20)]) := by
  have hx := X.1
  have hb := X.2.1
  unfold D_X7_put_73 at hD
  obtain ⟨hg45, hD⟩ := gd_s hD
  refine r_iast (eM_loc g q) X I (by decide) (eMa_20 g q) hg45 dX7_put_73 (fun H locs I => ?_)
  refine lv_aload_n hx hb dX7_put_74 rfl (lv_at hl 0 rfl) ?_
  refine lv_iconst (v := 1) hx hb dX7_put_75 (by decide) ?_
  obtain ⟨y48, hy48, hD⟩ := bd_s hD
  refine r_calli (r_runV (As := [.int (1 : Int32)]) (rest := []) X I (c_X7_refused l g q _ (up2 σ 20 t1.toNatClampNeg t0) (1 : Int32) hy48) kv_X7_refused ml_X7_140 rfl (by decide) (eM_Model g q _) ⟨Nat.le_of_ble_eq_true rfl, Nat.le_of_ble_eq_true rfl⟩ ⟨Nat.zero_le _, Nat.zero_le _⟩ rfl rfl hl.1 (Nat.le_of_ble_eq_true rfl) dX7_put_76) I (fun H locs I => ?_)
  exact r_iret2 X I hD dX7_put_79
def D_X7_put (σ : St) (p1 : Int32) (p2 : Int32) (p3 : Int32) : Option (Int32 × St) := (D_X7_noSheet σ p1).bind fun y2 => if y2 = 0 then (D_X7_noCell σ p1 p2).bind fun y7 => if y7 ≤ 0 then gd (inb p1 4) (if (σ 19 p1.toNatClampNeg) = 0 then D_X7_put_73 σ p3.toInt8.toInt32 (((60 : Int32) * p1) + p2) else gd (inb p1 4) (if (σ 19 p1.toNatClampNeg) = (1 : Int32) then D_X7_put_73 σ p3.toInt16.toInt32 (((60 : Int32) * p1) + p2) else D_X7_put_73 σ p3 (((60 : Int32) * p1) + p2))) else (D_X7_noCell σ p1 p2).bind fun y38 => (D_X7_failed σ y38).bind fun y39 => some (y39.1, y39.2) else (D_X7_refused σ (-1 : Int32)).bind fun y43 => some (y43.1, y43.2)
set_option maxRecDepth 100000 in
set_option maxHeartbeats 4000000 in
theorem c_X7_put (l : Launch) (g : Gh) (q : Nat → Nat) (sz : Nat) (σ : St) (p1 : Int32) (p2 : Int32) (p3 : Int32) {rr : (Int32 × St)} (hD : D_X7_put σ p1 p2 p3 = some rr) : Met l yX7_put (wU yX7_put cX7_put 4 (some .int)) (rmD 2) (PQ g (eM g q) q 22 σ sz [.ref (q 0), .int p1, .int p2, .int p3]) (QI g (eM g q) q 22 rr.1 rr.2 sz) 0 0 (AQ q 22 sz) := by
  refine met_of (Qc := QI g (eM g q) q 22 rr.1 rr.2) (by decide) (Nat.le_of_ble_eq_true rfl) ?_
  intro p e s m below meth c ls X I hl
  have hx := X.1
  have hb := X.2.1
  have hl : lv_has ls 4 [(0, .ref (q 0)), (1, .int p1), (2, .int p2), (3, .int p3)] := hl
  unfold D_X7_put at hD
  refine lv_iload_n hx hb dX7_put_0 rfl (lv_at hl 1 rfl) ?_
  obtain ⟨y2, hy2, hD⟩ := bd_s hD
  refine r_calli (r_runS (As := [.int p1]) (rest := []) X I (c_X7_noSheet l g q _ σ p1 hy2) ks_X7_noSheet ml_X7_136 ⟨Nat.le_of_ble_eq_true rfl, Nat.le_of_ble_eq_true rfl⟩ ⟨Nat.zero_le _, Nat.zero_le _⟩ rfl rfl hl.1 (Nat.le_of_ble_eq_true rfl) dX7_put_1) I (fun H locs I => ?_)
  refine lv_if_eq (tgt := 13) hx hb dX7_put_4 (by decide) (fun hc3 => ?_) (fun hc3 => ?_)
  · have hD := ite_p hc3 hD
    refine lv_aload_n hx hb dX7_put_13 rfl (lv_at hl 0 rfl) ?_
    refine lv_iload_n hx hb dX7_put_14 rfl (lv_at hl 1 rfl) ?_
    refine lv_iload_n hx hb dX7_put_15 rfl (lv_at hl 2 rfl) ?_
    obtain ⟨y7, hy7, hD⟩ := bd_s hD
    refine r_calli (r_runV (As := [.int p1, .int p2]) (rest := []) X I (c_X7_noCell l g q _ σ p1 p2 hy7) kv_X7_noCell ml_X7_232 rfl (by decide) (eM_Model g q _) ⟨Nat.le_of_ble_eq_true rfl, Nat.le_of_ble_eq_true rfl⟩ ⟨Nat.zero_le _, Nat.zero_le _⟩ rfl rfl hl.1 (Nat.le_of_ble_eq_true rfl) dX7_put_16) I (fun H locs I => ?_)
    refine lv_if_le (tgt := 33) hx hb dX7_put_19 (by decide) (fun hc8 => ?_) (fun hc8 => ?_)
    · have hD := ite_p hc8 hD
      refine lv_aload_n hx hb dX7_put_33 rfl (lv_at hl 0 rfl) ?_
      refine g_Model_sheet X I fl_X7_68 dX7_put_34 ?_
      refine lv_bipush (v := 60) hx hb dX7_put_37 (by decide) ?_
      refine lv_iload_n hx hb dX7_put_39 rfl (lv_at hl 1 rfl) ?_
      refine lv_imul hx hb dX7_put_40 ?_
      refine lv_iload_n hx hb dX7_put_41 rfl (lv_at hl 2 rfl) ?_
      refine lv_iadd hx hb dX7_put_42 ?_
      refine lv_aload_n hx hb dX7_put_43 rfl (lv_at hl 0 rfl) ?_
      refine g_Model_sheetLane X I fl_X7_65 dX7_put_44 ?_
      refine lv_iload_n hx hb dX7_put_47 rfl (lv_at hl 1 rfl) ?_
      obtain ⟨hg19, hD⟩ := gd_s hD
      refine r_iald X I (by decide) ((eMa_19 g q) _) hg19 dX7_put_48 ?_
      refine lv_if_ne (tgt := 57) hx hb dX7_put_49 (by decide) (fun hc20 => ?_) (fun hc20 => ?_)
      · have hD := ite_n hc20 hD
        refine lv_aload_n hx hb dX7_put_57 rfl (lv_at hl 0 rfl) ?_
        refine g_Model_sheetLane X I fl_X7_65 dX7_put_58 ?_
        refine lv_iload_n hx hb dX7_put_61 rfl (lv_at hl 1 rfl) ?_
        obtain ⟨hg24, hD⟩ := gd_s hD
        refine r_iald X I (by decide) ((eMa_19 g q) _) hg24 dX7_put_62 ?_
        refine lv_iconst (v := 1) hx hb dX7_put_63 (by decide) ?_
        refine lv_icmp_ne (tgt := 72) hx hb dX7_put_64 (by decide) (fun hc26 => ?_) (fun hc26 => ?_)
        · have hD := ite_n hc26 hD
          refine lv_iload_n hx hb dX7_put_72 rfl (lv_at hl 3 rfl) ?_
          exact w_X7_put_73 g q X σ p3 (((60 : Int32) * p1) + p2) hD _ _ _ I (lv_sub hl [0] rfl)
        · have hD := ite_p hc26 hD
          refine lv_iload_n hx hb dX7_put_67 rfl (lv_at hl 3 rfl) ?_
          refine lv_i2s hx hb dX7_put_68 rfl ?_
          refine lv_goto (tgt := 73) hx hb dX7_put_69 (by decide) ?_
          exact w_X7_put_73 g q X σ p3.toInt16.toInt32 (((60 : Int32) * p1) + p2) hD _ _ _ I (lv_sub hl [0] rfl)
      · have hD := ite_p hc20 hD
        refine lv_iload_n hx hb dX7_put_52 rfl (lv_at hl 3 rfl) ?_
        refine lv_i2b hx hb dX7_put_53 rfl ?_
        refine lv_goto (tgt := 73) hx hb dX7_put_54 (by decide) ?_
        exact w_X7_put_73 g q X σ p3.toInt8.toInt32 (((60 : Int32) * p1) + p2) hD _ _ _ I (lv_sub hl [0] rfl)
    · have hD := ite_n hc8 hD
      refine lv_aload_n hx hb dX7_put_22 rfl (lv_at hl 0 rfl) ?_
      refine lv_aload_n hx hb dX7_put_23 rfl (lv_at hl 0 rfl) ?_
      refine lv_iload_n hx hb dX7_put_24 rfl (lv_at hl 1 rfl) ?_
      refine lv_iload_n hx hb dX7_put_25 rfl (lv_at hl 2 rfl) ?_
      obtain ⟨y38, hy38, hD⟩ := bd_s hD
      refine r_calli (r_runV (As := [.int p1, .int p2]) (rest := [.ref (q 0)]) X I (c_X7_noCell l g q _ σ p1 p2 hy38) kv_X7_noCell ml_X7_232 rfl (by decide) (eM_Model g q _) ⟨Nat.le_of_ble_eq_true rfl, Nat.le_of_ble_eq_true rfl⟩ ⟨Nat.zero_le _, Nat.zero_le _⟩ rfl rfl hl.1 (Nat.le_of_ble_eq_true rfl) dX7_put_26) I (fun H locs I => ?_)
      obtain ⟨y39, hy39, hD⟩ := bd_s hD
      refine r_calli (r_runV (As := [.int y38]) (rest := []) X I (c_X7_failed l g q _ σ y38 hy39) kv_X7_failed ml_X7_129 rfl (by decide) (eM_Model g q _) ⟨Nat.le_of_ble_eq_true rfl, Nat.le_of_ble_eq_true rfl⟩ ⟨Nat.zero_le _, Nat.zero_le _⟩ rfl rfl hl.1 (Nat.le_of_ble_eq_true rfl) dX7_put_29) I (fun H locs I => ?_)
      exact r_iret2 X I hD dX7_put_32
  · have hD := ite_n hc3 hD
    refine lv_aload_n hx hb dX7_put_7 rfl (lv_at hl 0 rfl) ?_
    refine lv_iconst (v := -1) hx hb dX7_put_8 (by decide) ?_
    obtain ⟨y43, hy43, hD⟩ := bd_s hD
    refine r_calli (r_runV (As := [.int (-1 : Int32)]) (rest := []) X I (c_X7_refused l g q _ σ (-1 : Int32) hy43) kv_X7_refused ml_X7_140 rfl (by decide) (eM_Model g q _) ⟨Nat.le_of_ble_eq_true rfl, Nat.le_of_ble_eq_true rfl⟩ ⟨Nat.zero_le _, Nat.zero_le _⟩ rfl rfl hl.1 (Nat.le_of_ble_eq_true rfl) dX7_put_9) I (fun H locs I => ?_)
    exact r_iret2 X I hD dX7_put_12

/-! YearDeckModel.cell(III)J -/
def D_X7_cell_53 (σ : St) (v1 : Int32) (v2 : Int32) : Option (Int64 × St) := (D_X7_noCell σ v1 v2).bind fun y33 => if y33 ≤ 0 then gd (inb (((60 : Int32) * v1) + v2) 240) (some ((σ 20 (((60 : Int32) * v1) + v2).toNatClampNeg).toInt64, σ)) else (D_X7_noCell σ v1 v2).bind fun y49 => (D_X7_failedLong σ y49).bind fun y50 => some (y50.1, y50.2)
set_option maxRecDepth 100000 in
set_option maxHeartbeats 4000000 in
theorem w_X7_cell_53 {p : Program} {l : Launch} {e : Env} {s : State} {m : MethodId} {args : Array Value} {below : List Frame} {meth : Method} {c : Code} (g : Gh) (q : Nat → Nat) (X : MX p s m args meth c cX7_cell 4 (some .long) RX7) {rr : (Int64 × St)} (σ : St)  (v1 : Int32) (v2 : Int32) (hD : D_X7_cell_53 σ v1 v2 = some rr) (H : Heap) (locs : List Loc) (ls : Array Slot) (I : IM g q s σ H locs) (hl : lv_has ls 4 [(0, .ref (q 0)), (1, .int v1), (2, .int v2)]) : W p l e (rmD 2) s m args below meth c H locs 0 0 (MQ below (QL g (eM g q) q 22 rr.1 rr.2 s.heap.size) args s 0 0 (AQ q 22 s.heap.size)) (F0 m 53 ls []) := by
  have hx := X.1
  have hb := X.2.1
  unfold D_X7_cell_53 at hD
  refine lv_aload_n hx hb dX7_cell_53 rfl (lv_at hl 0 rfl) ?_
  refine lv_iload_n hx hb dX7_cell_54 rfl (lv_at hl 1 rfl) ?_
  refine lv_iload_n hx hb dX7_cell_55 rfl (lv_at hl 2 rfl) ?_
  obtain ⟨y33, hy33, hD⟩ := bd_s hD
  refine r_calli (r_runV (As := [.int v1, .int v2]) (rest := []) X I (c_X7_noCell l g q _ σ v1 v2 hy33) kv_X7_noCell ml_X7_232 rfl (by decide) (eM_Model g q _) ⟨Nat.le_of_ble_eq_true rfl, Nat.le_of_ble_eq_true rfl⟩ ⟨Nat.zero_le _, Nat.zero_le _⟩ rfl rfl hl.1 (Nat.le_of_ble_eq_true rfl) dX7_cell_56) I (fun H locs I => ?_)
  refine lv_if_le (tgt := 75) hx hb dX7_cell_59 (by decide) (fun hc34 => ?_) (fun hc34 => ?_)
  · have hD := ite_p hc34 hD
    refine lv_aload_n hx hb dX7_cell_75 rfl (lv_at hl 0 rfl) ?_
    refine g_Model_sheet X I fl_X7_68 dX7_cell_76 ?_
    refine lv_bipush (v := 60) hx hb dX7_cell_79 (by decide) ?_
    refine lv_iload_n hx hb dX7_cell_81 rfl (lv_at hl 1 rfl) ?_
    refine lv_imul hx hb dX7_cell_82 ?_
    refine lv_iload_n hx hb dX7_cell_83 rfl (lv_at hl 2 rfl) ?_
    refine lv_iadd hx hb dX7_cell_84 ?_
    obtain ⟨hg42, hD⟩ := gd_s hD
    refine r_iald X I (by decide) ((eMa_20 g q) _) hg42 dX7_cell_85 ?_
    refine lv_i2l hx hb dX7_cell_86 rfl ?_
    exact r_lret2 X I hD dX7_cell_87
  · have hD := ite_n hc34 hD
    refine lv_aload_n hx hb dX7_cell_62 rfl (lv_at hl 0 rfl) ?_
    refine lv_aload_n hx hb dX7_cell_63 rfl (lv_at hl 0 rfl) ?_
    refine lv_iload_n hx hb dX7_cell_64 rfl (lv_at hl 1 rfl) ?_
    refine lv_iload_n hx hb dX7_cell_65 rfl (lv_at hl 2 rfl) ?_
    obtain ⟨y49, hy49, hD⟩ := bd_s hD
    refine r_calli (r_runV (As := [.int v1, .int v2]) (rest := [.ref (q 0)]) X I (c_X7_noCell l g q _ σ v1 v2 hy49) kv_X7_noCell ml_X7_232 rfl (by decide) (eM_Model g q _) ⟨Nat.le_of_ble_eq_true rfl, Nat.le_of_ble_eq_true rfl⟩ ⟨Nat.zero_le _, Nat.zero_le _⟩ rfl rfl hl.1 (Nat.le_of_ble_eq_true rfl) dX7_cell_66) I (fun H locs I => ?_)
    obtain ⟨y50, hy50, hD⟩ := bd_s hD
    refine r_calll (r_runV (As := [.int y49]) (rest := []) X I (c_X7_failedLong l g q _ σ y49 hy50) kv_X7_failedLong ml_X7_235 rfl (by decide) (eM_Model g q _) ⟨Nat.le_of_ble_eq_true rfl, Nat.le_of_ble_eq_true rfl⟩ ⟨Nat.zero_le _, Nat.zero_le _⟩ rfl rfl hl.1 (Nat.le_of_ble_eq_true rfl) dX7_cell_69) I (fun H locs I => ?_)
    refine lv_goto (tgt := 87) hx hb dX7_cell_72 (by decide) ?_
    exact r_lret2 X I hD dX7_cell_87
def D_X7_cell_24 (σ : St) : Option (Int64 × St) := (D_X7_lost σ).bind fun y28 => some (y28, σ)
set_option maxRecDepth 100000 in
set_option maxHeartbeats 4000000 in
theorem w_X7_cell_24 {p : Program} {l : Launch} {e : Env} {s : State} {m : MethodId} {args : Array Value} {below : List Frame} {meth : Method} {c : Code} (g : Gh) (q : Nat → Nat) (X : MX p s m args meth c cX7_cell 4 (some .long) RX7) {rr : (Int64 × St)} (σ : St)  (hD : D_X7_cell_24 σ = some rr) (H : Heap) (locs : List Loc) (ls : Array Slot) (I : IM g q s σ H locs) (hl : lv_has ls 4 []) : W p l e (rmD 2) s m args below meth c H locs 0 0 (MQ below (QL g (eM g q) q 22 rr.1 rr.2 s.heap.size) args s 0 0 (AQ q 22 s.heap.size)) (F0 m 24 ls []) := by
  have hx := X.1
  have hb := X.2.1
  unfold D_X7_cell_24 at hD
  obtain ⟨y28, hy28, hD⟩ := bd_s hD
  refine r_calll (r_runS (As := []) (rest := []) X I (c_X7_lost l g q _ σ hy28) ks_X7_lost ml_X7_80 ⟨Nat.le_of_ble_eq_true rfl, Nat.le_of_ble_eq_true rfl⟩ ⟨Nat.zero_le _, Nat.zero_le _⟩ rfl rfl hl.1 (Nat.le_of_ble_eq_true rfl) dX7_cell_24) I (fun H locs I => ?_)
  exact r_lret2 X I hD dX7_cell_27
def D_X7_cell (σ : St) (p1 : Int32) (p2 : Int32) (p3 : Int32) : Option (Int64 × St) := (D_X7_noSheet (up2 σ 0 0 (0 : Int32)) p1).bind fun y5 => if y5 = 0 then (D_X7_in (up2 σ 0 0 (0 : Int32)) p3.toInt64 (0 : Int64) (2 : Int64)).bind fun y11 => if y11 = 0 then D_X7_cell_24 (up2 σ 0 0 (0 : Int32)) else gd (inb p1 4) (if ((up2 σ 0 0 (0 : Int32)) 18 p1.toNatClampNeg) < 0 then D_X7_cell_53 (up2 σ 0 0 (0 : Int32)) p1 p2 else gd (inb p1 4) (if ((up2 σ 0 0 (0 : Int32)) 19 p1.toNatClampNeg) = p3 then D_X7_cell_53 (up2 σ 0 0 (0 : Int32)) p1 p2 else (D_X7_failedLong (up2 σ 0 0 (0 : Int32)) (2 : Int32)).bind fun y26 => some (y26.1, y26.2))) else D_X7_cell_24 (up2 σ 0 0 (0 : Int32))
set_option maxRecDepth 100000 in
set_option maxHeartbeats 4000000 in
theorem c_X7_cell (l : Launch) (g : Gh) (q : Nat → Nat) (sz : Nat) (σ : St) (p1 : Int32) (p2 : Int32) (p3 : Int32) {rr : (Int64 × St)} (hD : D_X7_cell σ p1 p2 p3 = some rr) : Met l yX7_cell (wU yX7_cell cX7_cell 4 (some .long)) (rmD 2) (PQ g (eM g q) q 22 σ sz [.ref (q 0), .int p1, .int p2, .int p3]) (QL g (eM g q) q 22 rr.1 rr.2 sz) 0 0 (AQ q 22 sz) := by
  refine met_of (Qc := QL g (eM g q) q 22 rr.1 rr.2) (by decide) (Nat.le_of_ble_eq_true rfl) ?_
  intro p e s m below meth c ls X I hl
  have hx := X.1
  have hb := X.2.1
  have hl : lv_has ls 4 [(0, .ref (q 0)), (1, .int p1), (2, .int p2), (3, .int p3)] := hl
  unfold D_X7_cell at hD
  refine lv_aload_n hx hb dX7_cell_0 rfl (lv_at hl 0 rfl) ?_
  refine lv_iconst (v := 0) hx hb dX7_cell_1 (by decide) ?_
  refine p_Model_fault X I fl_X7_76 dX7_cell_2 (fun H locs I => ?_)
  refine lv_iload_n hx hb dX7_cell_5 rfl (lv_at hl 1 rfl) ?_
  obtain ⟨y5, hy5, hD⟩ := bd_s hD
  refine r_calli (r_runS (As := [.int p1]) (rest := []) X I (c_X7_noSheet l g q _ (up2 σ 0 0 (0 : Int32)) p1 hy5) ks_X7_noSheet ml_X7_136 ⟨Nat.le_of_ble_eq_true rfl, Nat.le_of_ble_eq_true rfl⟩ ⟨Nat.zero_le _, Nat.zero_le _⟩ rfl rfl hl.1 (Nat.le_of_ble_eq_true rfl) dX7_cell_6) I (fun H locs I => ?_)
  refine lv_if_ne (tgt := 24) hx hb dX7_cell_9 (by decide) (fun hc6 => ?_) (fun hc6 => ?_)
  · have hD := ite_n hc6 hD
    exact w_X7_cell_24 g q X (up2 σ 0 0 (0 : Int32)) hD _ _ _ I (lv_sub hl [] rfl)
  · have hD := ite_p hc6 hD
    refine lv_iload_n hx hb dX7_cell_12 rfl (lv_at hl 3 rfl) ?_
    refine lv_i2l hx hb dX7_cell_13 rfl ?_
    refine lv_lconst (v := 0) hx hb dX7_cell_14 rfl ?_
    refine lv_ldc2 (v := 2) hx hb X.2.2.2.2.1 (X.2.2.2.2.2.1 _ cl_X7_143) dX7_cell_15 ?_
    obtain ⟨y11, hy11, hD⟩ := bd_s hD
    refine r_calli (r_runS (As := [.long p3.toInt64, .long (0 : Int64), .long (2 : Int64)]) (rest := []) X I (c_X7_in l g q _ (up2 σ 0 0 (0 : Int32)) p3.toInt64 (0 : Int64) (2 : Int64) hy11) ks_X7_in ml_X7_87 ⟨Nat.le_of_ble_eq_true rfl, Nat.le_of_ble_eq_true rfl⟩ ⟨Nat.zero_le _, Nat.zero_le _⟩ rfl rfl hl.1 (Nat.le_of_ble_eq_true rfl) dX7_cell_18) I (fun H locs I => ?_)
    refine lv_if_ne (tgt := 28) hx hb dX7_cell_21 (by decide) (fun hc12 => ?_) (fun hc12 => ?_)
    · have hD := ite_n hc12 hD
      refine lv_aload_n hx hb dX7_cell_28 rfl (lv_at hl 0 rfl) ?_
      refine g_Model_sheetSize X I fl_X7_62 dX7_cell_29 ?_
      refine lv_iload_n hx hb dX7_cell_32 rfl (lv_at hl 1 rfl) ?_
      obtain ⟨hg16, hD⟩ := gd_s hD
      refine r_iald X I (by decide) ((eMa_18 g q) _) hg16 dX7_cell_33 ?_
      refine lv_if_lt (tgt := 53) hx hb dX7_cell_34 (by decide) (fun hc17 => ?_) (fun hc17 => ?_)
      · have hD := ite_p hc17 hD
        exact w_X7_cell_53 g q X (up2 σ 0 0 (0 : Int32)) p1 p2 hD _ _ _ I (lv_sub hl [0, 1, 2] rfl)
      · have hD := ite_n hc17 hD
        refine lv_aload_n hx hb dX7_cell_37 rfl (lv_at hl 0 rfl) ?_
        refine g_Model_sheetLane X I fl_X7_65 dX7_cell_38 ?_
        refine lv_iload_n hx hb dX7_cell_41 rfl (lv_at hl 1 rfl) ?_
        obtain ⟨hg21, hD⟩ := gd_s hD
        refine r_iald X I (by decide) ((eMa_19 g q) _) hg21 dX7_cell_42 ?_
        refine lv_iload_n hx hb dX7_cell_43 rfl (lv_at hl 3 rfl) ?_
        refine lv_icmp_eq (tgt := 53) hx hb dX7_cell_44 (by decide) (fun hc23 => ?_) (fun hc23 => ?_)
        · have hD := ite_p hc23 hD
          exact w_X7_cell_53 g q X (up2 σ 0 0 (0 : Int32)) p1 p2 hD _ _ _ I (lv_sub hl [0, 1, 2] rfl)
        · have hD := ite_n hc23 hD
          refine lv_aload_n hx hb dX7_cell_47 rfl (lv_at hl 0 rfl) ?_
          refine lv_iconst (v := 2) hx hb dX7_cell_48 (by decide) ?_
          obtain ⟨y26, hy26, hD⟩ := bd_s hD
          refine r_calll (r_runV (As := [.int (2 : Int32)]) (rest := []) X I (c_X7_failedLong l g q _ (up2 σ 0 0 (0 : Int32)) (2 : Int32) hy26) kv_X7_failedLong ml_X7_235 rfl (by decide) (eM_Model g q _) ⟨Nat.le_of_ble_eq_true rfl, Nat.le_of_ble_eq_true rfl⟩ ⟨Nat.zero_le _, Nat.zero_le _⟩ rfl rfl hl.1 (Nat.le_of_ble_eq_true rfl) dX7_cell_49) I (fun H locs I => ?_)
          exact r_lret2 X I hD dX7_cell_52
    · have hD := ite_p hc12 hD
      exact w_X7_cell_24 g q X (up2 σ 0 0 (0 : Int32)) hD _ _ _ I (lv_sub hl [] rfl)

/-! YearDeckModel.copy(IIIII)I -/
def D_X7_copy_179 (σ : St) (v5 : Int32) : Option (Int32 × St) := (D_X7_refused σ v5).bind fun y104 => some (y104.1, y104.2)
set_option maxRecDepth 100000 in
set_option maxHeartbeats 4000000 in
theorem w_X7_copy_179 {p : Program} {l : Launch} {e : Env} {s : State} {m : MethodId} {args : Array Value} {below : List Frame} {meth : Method} {c : Code} (g : Gh) (q : Nat → Nat) (X : MX p s m args meth c cX7_copy 7 (some .int) RX7) {rr : (Int32 × St)} (σ : St)  (v5 : Int32) (hD : D_X7_copy_179 σ v5 = some rr) (H : Heap) (locs : List Loc) (ls : Array Slot) (I : IM g q s σ H locs) (hl : lv_has ls 7 [(0, .ref (q 0)), (5, .int v5)]) : W p l e (rmD 2) s m args below meth c H locs 0 0 (MQ below (QI g (eM g q) q 22 rr.1 rr.2 s.heap.size) args s 0 0 (AQ q 22 s.heap.size)) (F0 m 179 ls []) := by
  have hx := X.1
  have hb := X.2.1
  unfold D_X7_copy_179 at hD
  refine lv_aload_n hx hb dX7_copy_179 rfl (lv_at hl 0 rfl) ?_
  refine lv_iload hx hb dX7_copy_180 (lv_at hl 1 rfl) ?_
  obtain ⟨y104, hy104, hD⟩ := bd_s hD
  refine r_calli (r_runV (As := [.int v5]) (rest := []) X I (c_X7_refused l g q _ σ v5 hy104) kv_X7_refused ml_X7_140 rfl (by decide) (eM_Model g q _) ⟨Nat.le_of_ble_eq_true rfl, Nat.le_of_ble_eq_true rfl⟩ ⟨Nat.zero_le _, Nat.zero_le _⟩ rfl rfl hl.1 (Nat.le_of_ble_eq_true rfl) dX7_copy_182) I (fun H locs I => ?_)
  exact r_iret2 X I hD dX7_copy_185
def D_X7_copy_144b (σ : St) (rc144 : St → Int32 → Option (Int32 × St)) (v3 : Int32) (v4 : Int32) (v5 : Int32) (v6 : Int32) : Option (Int32 × St) := if v5 ≤ v6 then D_X7_copy_179 σ v5 else gd (inb v6 60) (gd (inb ((((60 : Int32) * v3) + v4) + v6) 240) (rc144 (up2 σ 20 ((((60 : Int32) * v3) + v4) + v6).toNatClampNeg (σ 21 v6.toNatClampNeg)) (v6 + (1 : Int32))))
set_option maxRecDepth 100000 in
set_option maxHeartbeats 4000000 in
theorem w_X7_copy_144b {p : Program} {l : Launch} {e : Env} {s : State} {m : MethodId} {args : Array Value} {below : List Frame} {meth : Method} {c : Code} (g : Gh) (q : Nat → Nat) (X : MX p s m args meth c cX7_copy 7 (some .int) RX7) {rr : (Int32 × St)} (σ : St)  (v3 : Int32) (v4 : Int32) (v5 : Int32) (v6 : Int32) (rc144 : St → Int32 → Option (Int32 × St)) (hrc144 : ∀ (σ' : St) (v6' : Int32), rc144 σ' v6' = some rr → ∀ (H : Heap) (locs : List Loc) (ls : Array Slot), IM g q s σ' H locs → lv_has ls 7 [(0, .ref (q 0)), (3, .int v3), (4, .int v4), (5, .int v5), (6, .int v6')] → W p l e (rmD 2) s m args below meth c H locs 0 0 (MQ below (QI g (eM g q) q 22 rr.1 rr.2 s.heap.size) args s 0 0 (AQ q 22 s.heap.size)) (F0 m 144 ls [])) (hD : D_X7_copy_144b σ rc144 v3 v4 v5 v6 = some rr) (H : Heap) (locs : List Loc) (ls : Array Slot) (I : IM g q s σ H locs) (hl : lv_has ls 7 [(0, .ref (q 0)), (3, .int v3), (4, .int v4), (5, .int v5), (6, .int v6)]) : W p l e (rmD 2) s m args below meth c H locs 0 0 (MQ below (QI g (eM g q) q 22 rr.1 rr.2 s.heap.size) args s 0 0 (AQ q 22 s.heap.size)) (F0 m 144 ls []) := by
  have hx := X.1
  have hb := X.2.1
  unfold D_X7_copy_144b at hD
  refine lv_iload hx hb dX7_copy_144 (lv_at hl 4 rfl) ?_
  refine lv_iload hx hb dX7_copy_146 (lv_at hl 3 rfl) ?_
  refine lv_icmp_ge (tgt := 179) hx hb dX7_copy_148 (by decide) (fun hc85 => ?_) (fun hc85 => ?_)
  · have hD := ite_p hc85 hD
    exact w_X7_copy_179 g q X σ v5 hD _ _ _ I (lv_sub hl [0, 3] rfl)
  · have hD := ite_n hc85 hD
    refine lv_aload_n hx hb dX7_copy_151 rfl (lv_at hl 0 rfl) ?_
    refine g_Model_sheet X I fl_X7_68 dX7_copy_152 ?_
    refine lv_bipush (v := 60) hx hb dX7_copy_155 (by decide) ?_
    refine lv_iload_n hx hb dX7_copy_157 rfl (lv_at hl 1 rfl) ?_
    refine lv_imul hx hb dX7_copy_158 ?_
    refine lv_iload hx hb dX7_copy_159 (lv_at hl 2 rfl) ?_
    refine lv_iadd hx hb dX7_copy_161 ?_
    refine lv_iload hx hb dX7_copy_162 (lv_at hl 4 rfl) ?_
    refine lv_iadd hx hb dX7_copy_164 ?_
    refine lv_aload_n hx hb dX7_copy_165 rfl (lv_at hl 0 rfl) ?_
    refine g_Model_hands X I fl_X7_71 dX7_copy_166 ?_
    refine lv_iload hx hb dX7_copy_169 (lv_at hl 4 rfl) ?_
    obtain ⟨hg98, hD⟩ := gd_s hD
    refine r_iald X I (by decide) ((eMa_21 g q) _) hg98 dX7_copy_171 ?_
    obtain ⟨hg99, hD⟩ := gd_s hD
    refine r_iast (eM_loc g q) X I (by decide) (eMa_20 g q) hg99 dX7_copy_172 (fun H locs I => ?_)
    refine lv_iinc (v := v6 + (1 : Int32)) (lv' := [(6, .int (v6 + (1 : Int32))), (0, .ref (q 0)), (3, .int v3), (4, .int v4), (5, .int v5)]) hx hb dX7_copy_173 hl (k := 4) rfl rfl (by decide) rfl (fun ls hl => ?_)
    refine lv_goto (tgt := 144) hx hb dX7_copy_176 (by decide) ?_
    exact hrc144 (up2 σ 20 ((((60 : Int32) * v3) + v4) + v6).toNatClampNeg (σ 21 v6.toNatClampNeg)) (v6 + (1 : Int32)) hD _ _ _ I (lv_sub hl [1, 2, 3, 4, 0] rfl)
def D_X7_copy_144  (v3 : Int32) (v4 : Int32) (v5 : Int32) : Nat → St → Int32 → Option (Int32 × St)
  | 0 => fun _ _ => none
  | n + 1 => fun σ v6 => D_X7_copy_144b σ (D_X7_copy_144 v3 v4 v5 n) v3 v4 v5 v6
set_option maxRecDepth 100000 in
set_option maxHeartbeats 4000000 in
theorem w_X7_copy_144 {p : Program} {l : Launch} {e : Env} {s : State} {m : MethodId} {args : Array Value} {below : List Frame} {meth : Method} {c : Code} (g : Gh) (q : Nat → Nat) (X : MX p s m args meth c cX7_copy 7 (some .int) RX7) {rr : (Int32 × St)}  (v3 : Int32) (v4 : Int32) (v5 : Int32) : ∀ (n : Nat) (σ : St) (v6 : Int32), D_X7_copy_144 v3 v4 v5 n σ v6 = some rr → ∀ (H : Heap) (locs : List Loc) (ls : Array Slot), IM g q s σ H locs → lv_has ls 7 [(0, .ref (q 0)), (3, .int v3), (4, .int v4), (5, .int v5), (6, .int v6)] → W p l e (rmD 2) s m args below meth c H locs 0 0 (MQ below (QI g (eM g q) q 22 rr.1 rr.2 s.heap.size) args s 0 0 (AQ q 22 s.heap.size)) (F0 m 144 ls []) := by
  intro n
  induction n with
  | zero =>
    intro σ v6 hD H locs ls I hl
    cases hD
  | succ n ih =>
    intro σ v6 hD H locs ls I hl
    exact w_X7_copy_144b g q X σ v3 v4 v5 v6 _ ih hD H locs ls I hl
def D_X7_copy_141 (σ : St) (v3 : Int32) (v4 : Int32) (v5 : Int32) : Option (Int32 × St) := D_X7_copy_144 v3 v4 v5 FU σ (0 : Int32)
set_option maxRecDepth 100000 in
set_option maxHeartbeats 4000000 in
theorem w_X7_copy_141 {p : Program} {l : Launch} {e : Env} {s : State} {m : MethodId} {args : Array Value} {below : List Frame} {meth : Method} {c : Code} (g : Gh) (q : Nat → Nat) (X : MX p s m args meth c cX7_copy 7 (some .int) RX7) {rr : (Int32 × St)} (σ : St)  (v3 : Int32) (v4 : Int32) (v5 : Int32) (hD : D_X7_copy_141 σ v3 v4 v5 = some rr) (H : Heap) (locs : List Loc) (ls : Array Slot) (I : IM g q s σ H locs) (hl : lv_has ls 7 [(0, .ref (q 0)), (3, .int v3), (4, .int v4), (5, .int v5)]) : W p l e (rmD 2) s m args below meth c H locs 0 0 (MQ below (QI g (eM g q) q 22 rr.1 rr.2 s.heap.size) args s 0 0 (AQ q 22 s.heap.size)) (F0 m 141 ls []) := by
  have hx := X.1
  have hb := X.2.1
  unfold D_X7_copy_141 at hD
  refine lv_iconst (v := 0) hx hb dX7_copy_141 (by decide) ?_
  refine lv_istore (lv' := [(6, .int (0 : Int32)), (0, .ref (q 0)), (3, .int v3), (4, .int v4), (5, .int v5)]) hx hb dX7_copy_142 hl (by decide) rfl (fun ls hl => ?_)
  exact w_X7_copy_144 g q X v3 v4 v5 FU σ (0 : Int32) hD _ _ _ I (lv_sub hl [1, 2, 3, 4, 0] rfl)
def D_X7_copy_107b (σ : St) (rc107 : St → Int32 → Option (Int32 × St)) (v1 : Int32) (v2 : Int32) (v3 : Int32) (v4 : Int32) (v5 : Int32) (v6 : Int32) : Option (Int32 × St) := if v5 ≤ v6 then D_X7_copy_141 σ v3 v4 v5 else gd (inb ((((60 : Int32) * v1) + v2) + v6) 240) (gd (inb v6 60) (rc107 (up2 σ 21 v6.toNatClampNeg (σ 20 ((((60 : Int32) * v1) + v2) + v6).toNatClampNeg)) (v6 + (1 : Int32))))
set_option maxRecDepth 100000 in
set_option maxHeartbeats 4000000 in
theorem w_X7_copy_107b {p : Program} {l : Launch} {e : Env} {s : State} {m : MethodId} {args : Array Value} {below : List Frame} {meth : Method} {c : Code} (g : Gh) (q : Nat → Nat) (X : MX p s m args meth c cX7_copy 7 (some .int) RX7) {rr : (Int32 × St)} (σ : St)  (v1 : Int32) (v2 : Int32) (v3 : Int32) (v4 : Int32) (v5 : Int32) (v6 : Int32) (rc107 : St → Int32 → Option (Int32 × St)) (hrc107 : ∀ (σ' : St) (v6' : Int32), rc107 σ' v6' = some rr → ∀ (H : Heap) (locs : List Loc) (ls : Array Slot), IM g q s σ' H locs → lv_has ls 7 [(0, .ref (q 0)), (1, .int v1), (2, .int v2), (3, .int v3), (4, .int v4), (5, .int v5), (6, .int v6')] → W p l e (rmD 2) s m args below meth c H locs 0 0 (MQ below (QI g (eM g q) q 22 rr.1 rr.2 s.heap.size) args s 0 0 (AQ q 22 s.heap.size)) (F0 m 107 ls [])) (hD : D_X7_copy_107b σ rc107 v1 v2 v3 v4 v5 v6 = some rr) (H : Heap) (locs : List Loc) (ls : Array Slot) (I : IM g q s σ H locs) (hl : lv_has ls 7 [(0, .ref (q 0)), (1, .int v1), (2, .int v2), (3, .int v3), (4, .int v4), (5, .int v5), (6, .int v6)]) : W p l e (rmD 2) s m args below meth c H locs 0 0 (MQ below (QI g (eM g q) q 22 rr.1 rr.2 s.heap.size) args s 0 0 (AQ q 22 s.heap.size)) (F0 m 107 ls []) := by
  have hx := X.1
  have hb := X.2.1
  unfold D_X7_copy_107b at hD
  refine lv_iload hx hb dX7_copy_107 (lv_at hl 6 rfl) ?_
  refine lv_iload hx hb dX7_copy_109 (lv_at hl 5 rfl) ?_
  refine lv_icmp_ge (tgt := 141) hx hb dX7_copy_111 (by decide) (fun hc64 => ?_) (fun hc64 => ?_)
  · have hD := ite_p hc64 hD
    exact w_X7_copy_141 g q X σ v3 v4 v5 hD _ _ _ I (lv_sub hl [0, 3, 4, 5] rfl)
  · have hD := ite_n hc64 hD
    refine lv_aload_n hx hb dX7_copy_114 rfl (lv_at hl 0 rfl) ?_
    refine g_Model_hands X I fl_X7_71 dX7_copy_115 ?_
    refine lv_iload hx hb dX7_copy_118 (lv_at hl 6 rfl) ?_
    refine lv_aload_n hx hb dX7_copy_120 rfl (lv_at hl 0 rfl) ?_
    refine g_Model_sheet X I fl_X7_68 dX7_copy_121 ?_
    refine lv_bipush (v := 60) hx hb dX7_copy_124 (by decide) ?_
    refine lv_iload_n hx hb dX7_copy_126 rfl (lv_at hl 1 rfl) ?_
    refine lv_imul hx hb dX7_copy_127 ?_
    refine lv_iload_n hx hb dX7_copy_128 rfl (lv_at hl 2 rfl) ?_
    refine lv_iadd hx hb dX7_copy_129 ?_
    refine lv_iload hx hb dX7_copy_130 (lv_at hl 6 rfl) ?_
    refine lv_iadd hx hb dX7_copy_132 ?_
    obtain ⟨hg77, hD⟩ := gd_s hD
    refine r_iald X I (by decide) ((eMa_20 g q) _) hg77 dX7_copy_133 ?_
    obtain ⟨hg78, hD⟩ := gd_s hD
    refine r_iast (eM_loc g q) X I (by decide) (eMa_21 g q) hg78 dX7_copy_134 (fun H locs I => ?_)
    refine lv_iinc (v := v6 + (1 : Int32)) (lv' := [(6, .int (v6 + (1 : Int32))), (0, .ref (q 0)), (1, .int v1), (2, .int v2), (3, .int v3), (4, .int v4), (5, .int v5)]) hx hb dX7_copy_135 hl (k := 6) rfl rfl (by decide) rfl (fun ls hl => ?_)
    refine lv_goto (tgt := 107) hx hb dX7_copy_138 (by decide) ?_
    exact hrc107 (up2 σ 21 v6.toNatClampNeg (σ 20 ((((60 : Int32) * v1) + v2) + v6).toNatClampNeg)) (v6 + (1 : Int32)) hD _ _ _ I (lv_sub hl [1, 2, 3, 4, 5, 6, 0] rfl)
def D_X7_copy_107  (v1 : Int32) (v2 : Int32) (v3 : Int32) (v4 : Int32) (v5 : Int32) : Nat → St → Int32 → Option (Int32 × St)
  | 0 => fun _ _ => none
  | n + 1 => fun σ v6 => D_X7_copy_107b σ (D_X7_copy_107 v1 v2 v3 v4 v5 n) v1 v2 v3 v4 v5 v6
set_option maxRecDepth 100000 in
set_option maxHeartbeats 4000000 in
theorem w_X7_copy_107 {p : Program} {l : Launch} {e : Env} {s : State} {m : MethodId} {args : Array Value} {below : List Frame} {meth : Method} {c : Code} (g : Gh) (q : Nat → Nat) (X : MX p s m args meth c cX7_copy 7 (some .int) RX7) {rr : (Int32 × St)}  (v1 : Int32) (v2 : Int32) (v3 : Int32) (v4 : Int32) (v5 : Int32) : ∀ (n : Nat) (σ : St) (v6 : Int32), D_X7_copy_107 v1 v2 v3 v4 v5 n σ v6 = some rr → ∀ (H : Heap) (locs : List Loc) (ls : Array Slot), IM g q s σ H locs → lv_has ls 7 [(0, .ref (q 0)), (1, .int v1), (2, .int v2), (3, .int v3), (4, .int v4), (5, .int v5), (6, .int v6)] → W p l e (rmD 2) s m args below meth c H locs 0 0 (MQ below (QI g (eM g q) q 22 rr.1 rr.2 s.heap.size) args s 0 0 (AQ q 22 s.heap.size)) (F0 m 107 ls []) := by
  intro n
  induction n with
  | zero =>
    intro σ v6 hD H locs ls I hl
    cases hD
  | succ n ih =>
    intro σ v6 hD H locs ls I hl
    exact w_X7_copy_107b g q X σ v1 v2 v3 v4 v5 v6 _ ih hD H locs ls I hl
def D_X7_copy_98 (σ : St) : Option (Int32 × St) := (D_X7_failed σ (3 : Int32)).bind fun y60 => some (y60.1, y60.2)
set_option maxRecDepth 100000 in
set_option maxHeartbeats 4000000 in
theorem w_X7_copy_98 {p : Program} {l : Launch} {e : Env} {s : State} {m : MethodId} {args : Array Value} {below : List Frame} {meth : Method} {c : Code} (g : Gh) (q : Nat → Nat) (X : MX p s m args meth c cX7_copy 7 (some .int) RX7) {rr : (Int32 × St)} (σ : St)  (hD : D_X7_copy_98 σ = some rr) (H : Heap) (locs : List Loc) (ls : Array Slot) (I : IM g q s σ H locs) (hl : lv_has ls 7 [(0, .ref (q 0))]) : W p l e (rmD 2) s m args below meth c H locs 0 0 (MQ below (QI g (eM g q) q 22 rr.1 rr.2 s.heap.size) args s 0 0 (AQ q 22 s.heap.size)) (F0 m 98 ls []) := by
  have hx := X.1
  have hb := X.2.1
  unfold D_X7_copy_98 at hD
  refine lv_aload_n hx hb dX7_copy_98 rfl (lv_at hl 0 rfl) ?_
  refine lv_iconst (v := 3) hx hb dX7_copy_99 (by decide) ?_
  obtain ⟨y60, hy60, hD⟩ := bd_s hD
  refine r_calli (r_runV (As := [.int (3 : Int32)]) (rest := []) X I (c_X7_failed l g q _ σ (3 : Int32) hy60) kv_X7_failed ml_X7_129 rfl (by decide) (eM_Model g q _) ⟨Nat.le_of_ble_eq_true rfl, Nat.le_of_ble_eq_true rfl⟩ ⟨Nat.zero_le _, Nat.zero_le _⟩ rfl rfl hl.1 (Nat.le_of_ble_eq_true rfl) dX7_copy_100) I (fun H locs I => ?_)
  exact r_iret2 X I hD dX7_copy_103
def D_X7_copy_38 (σ : St) : Option (Int32 × St) := (D_X7_failed σ (1 : Int32)).bind fun y56 => some (y56.1, y56.2)
set_option maxRecDepth 100000 in
set_option maxHeartbeats 4000000 in
theorem w_X7_copy_38 {p : Program} {l : Launch} {e : Env} {s : State} {m : MethodId} {args : Array Value} {below : List Frame} {meth : Method} {c : Code} (g : Gh) (q : Nat → Nat) (X : MX p s m args meth c cX7_copy 7 (some .int) RX7) {rr : (Int32 × St)} (σ : St)  (hD : D_X7_copy_38 σ = some rr) (H : Heap) (locs : List Loc) (ls : Array Slot) (I : IM g q s σ H locs) (hl : lv_has ls 7 [(0, .ref (q 0))]) : W p l e (rmD 2) s m args below meth c H locs 0 0 (MQ below (QI g (eM g q) q 22 rr.1 rr.2 s.heap.size) args s 0 0 (AQ q 22 s.heap.size)) (F0 m 38 ls []) := by
  have hx := X.1
  have hb := X.2.1
  unfold D_X7_copy_38 at hD
  refine lv_aload_n hx hb dX7_copy_38 rfl (lv_at hl 0 rfl) ?_
  refine lv_iconst (v := 1) hx hb dX7_copy_39 (by decide) ?_
  obtain ⟨y56, hy56, hD⟩ := bd_s hD
  refine r_calli (r_runV (As := [.int (1 : Int32)]) (rest := []) X I (c_X7_failed l g q _ σ (1 : Int32) hy56) kv_X7_failed ml_X7_129 rfl (by decide) (eM_Model g q _) ⟨Nat.le_of_ble_eq_true rfl, Nat.le_of_ble_eq_true rfl⟩ ⟨Nat.zero_le _, Nat.zero_le _⟩ rfl rfl hl.1 (Nat.le_of_ble_eq_true rfl) dX7_copy_40) I (fun H locs I => ?_)
  exact r_iret2 X I hD dX7_copy_43
def D_X7_copy_14 (σ : St) : Option (Int32 × St) := (D_X7_refused σ (-1 : Int32)).bind fun y52 => some (y52.1, y52.2)
set_option maxRecDepth 100000 in
set_option maxHeartbeats 4000000 in
theorem w_X7_copy_14 {p : Program} {l : Launch} {e : Env} {s : State} {m : MethodId} {args : Array Value} {below : List Frame} {meth : Method} {c : Code} (g : Gh) (q : Nat → Nat) (X : MX p s m args meth c cX7_copy 7 (some .int) RX7) {rr : (Int32 × St)} (σ : St)  (hD : D_X7_copy_14 σ = some rr) (H : Heap) (locs : List Loc) (ls : Array Slot) (I : IM g q s σ H locs) (hl : lv_has ls 7 [(0, .ref (q 0))]) : W p l e (rmD 2) s m args below meth c H locs 0 0 (MQ below (QI g (eM g q) q 22 rr.1 rr.2 s.heap.size) args s 0 0 (AQ q 22 s.heap.size)) (F0 m 14 ls []) := by
  have hx := X.1
  have hb := X.2.1
  unfold D_X7_copy_14 at hD
  refine lv_aload_n hx hb dX7_copy_14 rfl (lv_at hl 0 rfl) ?_
  refine lv_iconst (v := -1) hx hb dX7_copy_15 (by decide) ?_
  obtain ⟨y52, hy52, hD⟩ := bd_s hD
  refine r_calli (r_runV (As := [.int (-1 : Int32)]) (rest := []) X I (c_X7_refused l g q _ σ (-1 : Int32) hy52) kv_X7_refused ml_X7_140 rfl (by decide) (eM_Model g q _) ⟨Nat.le_of_ble_eq_true rfl, Nat.le_of_ble_eq_true rfl⟩ ⟨Nat.zero_le _, Nat.zero_le _⟩ rfl rfl hl.1 (Nat.le_of_ble_eq_true rfl) dX7_copy_16) I (fun H locs I => ?_)
  exact r_iret2 X I hD dX7_copy_19
def D_X7_copy (σ : St) (p1 : Int32) (p2 : Int32) (p3 : Int32) (p4 : Int32) (p5 : Int32) : Option (Int32 × St) := (D_X7_noSheet σ p1).bind fun y2 => if y2 = 0 then (D_X7_noSheet σ p3).bind fun y5 => if y5 = 0 then gd (inb p1 4) (if (σ 18 p1.toNatClampNeg) < 0 then D_X7_copy_38 σ else gd (inb p3 4) (if 0 ≤ (σ 18 p3.toNatClampNeg) then gd (inb p1 4) (gd (inb p3 4) (if (σ 19 p1.toNatClampNeg) = (σ 19 p3.toNatClampNeg) then gd (inb p1 4) ((D_X7_isBeyond σ p2 p5.toInt64 (σ 18 p1.toNatClampNeg)).bind fun y33 => if y33 = 0 then gd (inb p3 4) ((D_X7_isBeyond σ p4 p5.toInt64 (σ 18 p3.toNatClampNeg)).bind fun y42 => if y42 = 0 then D_X7_copy_107 p1 p2 p3 p4 p5 FU σ (0 : Int32) else D_X7_copy_98 σ) else D_X7_copy_98 σ) else (D_X7_failed σ (2 : Int32)).bind fun y48 => some (y48.1, y48.2))) else D_X7_copy_38 σ)) else D_X7_copy_14 σ else D_X7_copy_14 σ
set_option maxRecDepth 100000 in
set_option maxHeartbeats 4000000 in
theorem c_X7_copy (l : Launch) (g : Gh) (q : Nat → Nat) (sz : Nat) (σ : St) (p1 : Int32) (p2 : Int32) (p3 : Int32) (p4 : Int32) (p5 : Int32) {rr : (Int32 × St)} (hD : D_X7_copy σ p1 p2 p3 p4 p5 = some rr) : Met l yX7_copy (wU yX7_copy cX7_copy 7 (some .int)) (rmD 2) (PQ g (eM g q) q 22 σ sz [.ref (q 0), .int p1, .int p2, .int p3, .int p4, .int p5]) (QI g (eM g q) q 22 rr.1 rr.2 sz) 0 0 (AQ q 22 sz) := by
  refine met_of (Qc := QI g (eM g q) q 22 rr.1 rr.2) (by decide) (Nat.le_of_ble_eq_true rfl) ?_
  intro p e s m below meth c ls X I hl
  have hx := X.1
  have hb := X.2.1
  have hl : lv_has ls 7 [(0, .ref (q 0)), (1, .int p1), (2, .int p2), (3, .int p3), (4, .int p4), (5, .int p5)] := hl
  unfold D_X7_copy at hD
  refine lv_iload_n hx hb dX7_copy_0 rfl (lv_at hl 1 rfl) ?_
  obtain ⟨y2, hy2, hD⟩ := bd_s hD
  refine r_calli (r_runS (As := [.int p1]) (rest := []) X I (c_X7_noSheet l g q _ σ p1 hy2) ks_X7_noSheet ml_X7_136 ⟨Nat.le_of_ble_eq_true rfl, Nat.le_of_ble_eq_true rfl⟩ ⟨Nat.zero_le _, Nat.zero_le _⟩ rfl rfl hl.1 (Nat.le_of_ble_eq_true rfl) dX7_copy_1) I (fun H locs I => ?_)
  refine lv_if_ne (tgt := 14) hx hb dX7_copy_4 (by decide) (fun hc3 => ?_) (fun hc3 => ?_)
  · have hD := ite_n hc3 hD
    exact w_X7_copy_14 g q X σ hD _ _ _ I (lv_sub hl [0] rfl)
  · have hD := ite_p hc3 hD
    refine lv_iload_n hx hb dX7_copy_7 rfl (lv_at hl 3 rfl) ?_
    obtain ⟨y5, hy5, hD⟩ := bd_s hD
    refine r_calli (r_runS (As := [.int p3]) (rest := []) X I (c_X7_noSheet l g q _ σ p3 hy5) ks_X7_noSheet ml_X7_136 ⟨Nat.le_of_ble_eq_true rfl, Nat.le_of_ble_eq_true rfl⟩ ⟨Nat.zero_le _, Nat.zero_le _⟩ rfl rfl hl.1 (Nat.le_of_ble_eq_true rfl) dX7_copy_8) I (fun H locs I => ?_)
    refine lv_if_eq (tgt := 20) hx hb dX7_copy_11 (by decide) (fun hc6 => ?_) (fun hc6 => ?_)
    · have hD := ite_p hc6 hD
      refine lv_aload_n hx hb dX7_copy_20 rfl (lv_at hl 0 rfl) ?_
      refine g_Model_sheetSize X I fl_X7_62 dX7_copy_21 ?_
      refine lv_iload_n hx hb dX7_copy_24 rfl (lv_at hl 1 rfl) ?_
      obtain ⟨hg10, hD⟩ := gd_s hD
      refine r_iald X I (by decide) ((eMa_18 g q) _) hg10 dX7_copy_25 ?_
      refine lv_if_lt (tgt := 38) hx hb dX7_copy_26 (by decide) (fun hc11 => ?_) (fun hc11 => ?_)
      · have hD := ite_p hc11 hD
        exact w_X7_copy_38 g q X σ hD _ _ _ I (lv_sub hl [0] rfl)
      · have hD := ite_n hc11 hD
        refine lv_aload_n hx hb dX7_copy_29 rfl (lv_at hl 0 rfl) ?_
        refine g_Model_sheetSize X I fl_X7_62 dX7_copy_30 ?_
        refine lv_iload_n hx hb dX7_copy_33 rfl (lv_at hl 3 rfl) ?_
        obtain ⟨hg15, hD⟩ := gd_s hD
        refine r_iald X I (by decide) ((eMa_18 g q) _) hg15 dX7_copy_34 ?_
        refine lv_if_ge (tgt := 44) hx hb dX7_copy_35 (by decide) (fun hc16 => ?_) (fun hc16 => ?_)
        · have hD := ite_p hc16 hD
          refine lv_aload_n hx hb dX7_copy_44 rfl (lv_at hl 0 rfl) ?_
          refine g_Model_sheetLane X I fl_X7_65 dX7_copy_45 ?_
          refine lv_iload_n hx hb dX7_copy_48 rfl (lv_at hl 1 rfl) ?_
          obtain ⟨hg20, hD⟩ := gd_s hD
          refine r_iald X I (by decide) ((eMa_19 g q) _) hg20 dX7_copy_49 ?_
          refine lv_aload_n hx hb dX7_copy_50 rfl (lv_at hl 0 rfl) ?_
          refine g_Model_sheetLane X I fl_X7_65 dX7_copy_51 ?_
          refine lv_iload_n hx hb dX7_copy_54 rfl (lv_at hl 3 rfl) ?_
          obtain ⟨hg24, hD⟩ := gd_s hD
          refine r_iald X I (by decide) ((eMa_19 g q) _) hg24 dX7_copy_55 ?_
          refine lv_icmp_eq (tgt := 65) hx hb dX7_copy_56 (by decide) (fun hc25 => ?_) (fun hc25 => ?_)
          · have hD := ite_p hc25 hD
            refine lv_iload_n hx hb dX7_copy_65 rfl (lv_at hl 2 rfl) ?_
            refine lv_iload hx hb dX7_copy_66 (lv_at hl 5 rfl) ?_
            refine lv_i2l hx hb dX7_copy_68 rfl ?_
            refine lv_aload_n hx hb dX7_copy_69 rfl (lv_at hl 0 rfl) ?_
            refine g_Model_sheetSize X I fl_X7_62 dX7_copy_70 ?_
            refine lv_iload_n hx hb dX7_copy_73 rfl (lv_at hl 1 rfl) ?_
            obtain ⟨hg32, hD⟩ := gd_s hD
            refine r_iald X I (by decide) ((eMa_18 g q) _) hg32 dX7_copy_74 ?_
            obtain ⟨y33, hy33, hD⟩ := bd_s hD
            refine r_calli (r_runS (As := [.int p2, .long p5.toInt64, .int (σ 18 p1.toNatClampNeg)]) (rest := []) X I (c_X7_isBeyond l g q _ σ p2 p5.toInt64 (σ 18 p1.toNatClampNeg) hy33) ks_X7_isBeyond ml_X7_132 ⟨Nat.le_of_ble_eq_true rfl, Nat.le_of_ble_eq_true rfl⟩ ⟨Nat.zero_le _, Nat.zero_le _⟩ rfl rfl hl.1 (Nat.le_of_ble_eq_true rfl) dX7_copy_75) I (fun H locs I => ?_)
            refine lv_if_ne (tgt := 98) hx hb dX7_copy_78 (by decide) (fun hc34 => ?_) (fun hc34 => ?_)
            · have hD := ite_n hc34 hD
              exact w_X7_copy_98 g q X σ hD _ _ _ I (lv_sub hl [0] rfl)
            · have hD := ite_p hc34 hD
              refine lv_iload hx hb dX7_copy_81 (lv_at hl 4 rfl) ?_
              refine lv_iload hx hb dX7_copy_83 (lv_at hl 5 rfl) ?_
              refine lv_i2l hx hb dX7_copy_85 rfl ?_
              refine lv_aload_n hx hb dX7_copy_86 rfl (lv_at hl 0 rfl) ?_
              refine g_Model_sheetSize X I fl_X7_62 dX7_copy_87 ?_
              refine lv_iload_n hx hb dX7_copy_90 rfl (lv_at hl 3 rfl) ?_
              obtain ⟨hg41, hD⟩ := gd_s hD
              refine r_iald X I (by decide) ((eMa_18 g q) _) hg41 dX7_copy_91 ?_
              obtain ⟨y42, hy42, hD⟩ := bd_s hD
              refine r_calli (r_runS (As := [.int p4, .long p5.toInt64, .int (σ 18 p3.toNatClampNeg)]) (rest := []) X I (c_X7_isBeyond l g q _ σ p4 p5.toInt64 (σ 18 p3.toNatClampNeg) hy42) ks_X7_isBeyond ml_X7_132 ⟨Nat.le_of_ble_eq_true rfl, Nat.le_of_ble_eq_true rfl⟩ ⟨Nat.zero_le _, Nat.zero_le _⟩ rfl rfl hl.1 (Nat.le_of_ble_eq_true rfl) dX7_copy_92) I (fun H locs I => ?_)
              refine lv_if_eq (tgt := 104) hx hb dX7_copy_95 (by decide) (fun hc43 => ?_) (fun hc43 => ?_)
              · have hD := ite_p hc43 hD
                refine lv_iconst (v := 0) hx hb dX7_copy_104 (by decide) ?_
                refine lv_istore (lv' := [(6, .int (0 : Int32)), (0, .ref (q 0)), (1, .int p1), (2, .int p2), (3, .int p3), (4, .int p4), (5, .int p5)]) hx hb dX7_copy_105 hl (by decide) rfl (fun ls hl => ?_)
                exact w_X7_copy_107 g q X p1 p2 p3 p4 p5 FU σ (0 : Int32) hD _ _ _ I (lv_sub hl [1, 2, 3, 4, 5, 6, 0] rfl)
              · have hD := ite_n hc43 hD
                exact w_X7_copy_98 g q X σ hD _ _ _ I (lv_sub hl [0] rfl)
          · have hD := ite_n hc25 hD
            refine lv_aload_n hx hb dX7_copy_59 rfl (lv_at hl 0 rfl) ?_
            refine lv_iconst (v := 2) hx hb dX7_copy_60 (by decide) ?_
            obtain ⟨y48, hy48, hD⟩ := bd_s hD
            refine r_calli (r_runV (As := [.int (2 : Int32)]) (rest := []) X I (c_X7_failed l g q _ σ (2 : Int32) hy48) kv_X7_failed ml_X7_129 rfl (by decide) (eM_Model g q _) ⟨Nat.le_of_ble_eq_true rfl, Nat.le_of_ble_eq_true rfl⟩ ⟨Nat.zero_le _, Nat.zero_le _⟩ rfl rfl hl.1 (Nat.le_of_ble_eq_true rfl) dX7_copy_61) I (fun H locs I => ?_)
            exact r_iret2 X I hD dX7_copy_64
        · have hD := ite_n hc16 hD
          exact w_X7_copy_38 g q X σ hD _ _ _ I (lv_sub hl [0] rfl)
    · have hD := ite_n hc6 hD
      exact w_X7_copy_14 g q X σ hD _ _ _ I (lv_sub hl [0] rfl)

/-! YearDeckModel.traced(I)V -/
def D_X7_traced (σ : St) (p1 : Int32) : Option St := some (up2 σ 0 30 (((31 : Int32) * (σ 0 30)) + p1))
set_option maxRecDepth 100000 in
set_option maxHeartbeats 4000000 in
theorem c_X7_traced (l : Launch) (g : Gh) (q : Nat → Nat) (sz : Nat) (σ : St) (p1 : Int32) {rr : St} (hD : D_X7_traced σ p1 = some rr) : Met l yX7_traced (wU yX7_traced cX7_traced 2 none) (rmD 0) (PQ g (eM g q) q 22 σ sz [.ref (q 0), .int p1]) (QV g (eM g q) q 22 rr sz) 0 0 (AQ q 22 sz) := by
  refine met_of (Qc := QV g (eM g q) q 22 rr) (by decide) (Nat.le_of_ble_eq_true rfl) ?_
  intro p e s m below meth c ls X I hl
  have hx := X.1
  have hb := X.2.1
  have hl : lv_has ls 2 [(0, .ref (q 0)), (1, .int p1)] := hl
  unfold D_X7_traced at hD
  refine lv_aload_n hx hb dX7_traced_0 rfl (lv_at hl 0 rfl) ?_
  refine lv_bipush (v := 31) hx hb dX7_traced_1 (by decide) ?_
  refine lv_aload_n hx hb dX7_traced_3 rfl (lv_at hl 0 rfl) ?_
  refine g_Model_traceNow X I fl_X7_239 dX7_traced_4 ?_
  refine lv_imul hx hb dX7_traced_7 ?_
  refine lv_iload_n hx hb dX7_traced_8 rfl (lv_at hl 1 rfl) ?_
  refine lv_iadd hx hb dX7_traced_9 ?_
  refine p_Model_traceNow X I fl_X7_239 dX7_traced_10 (fun H locs I => ?_)
  exact r_vret X I hD dX7_traced_13

/-! YearDeckModel.tell(I)I -/
def D_X7_tell_51 (σ : St) (v1 : Int32) (v2 : Int32) : Option (Int32 × St) := gd (inb v1 4) (if v2 = 0 then some (σ 5 v1.toNatClampNeg, σ) else if v2 = (1 : Int32) then some ((σ 5 v1.toNatClampNeg) + (100 : Int32), σ) else some (((2 : Int32) * (σ 5 v1.toNatClampNeg)) + (100 : Int32), σ))
set_option maxRecDepth 100000 in
set_option maxHeartbeats 4000000 in
theorem w_X7_tell_51 {p : Program} {l : Launch} {e : Env} {s : State} {m : MethodId} {args : Array Value} {below : List Frame} {meth : Method} {c : Code} (g : Gh) (q : Nat → Nat) (X : MX p s m args meth c cX7_tell 4 (some .int) RX7) {rr : (Int32 × St)} (σ : St)  (v1 : Int32) (v2 : Int32) (hD : D_X7_tell_51 σ v1 v2 = some rr) (H : Heap) (locs : List Loc) (ls : Array Slot) (I : IM g q s σ H locs) (hl : lv_has ls 4 [(0, .ref (q 0)), (1, .int v1), (2, .int v2)]) : W p l e (rmD 2) s m args below meth c H locs 0 0 (MQ below (QI g (eM g q) q 22 rr.1 rr.2 s.heap.size) args s 0 0 (AQ q 22 s.heap.size)) (F0 m 51 ls []) := by
  have hx := X.1
  have hb := X.2.1
  unfold D_X7_tell_51 at hD
  refine lv_aload_n hx hb dX7_tell_51 rfl (lv_at hl 0 rfl) ?_
  refine g_Model_ageOf X I fl_X7_22 dX7_tell_52 ?_
  refine lv_iload_n hx hb dX7_tell_55 rfl (lv_at hl 1 rfl) ?_
  obtain ⟨hg35, hD⟩ := gd_s hD
  refine r_iald X I (by decide) ((eMa_5 g q) _) hg35 dX7_tell_56 ?_
  refine lv_istore_n (lv' := [(3, .int (σ 5 v1.toNatClampNeg)), (0, .ref (q 0)), (1, .int v1), (2, .int v2)]) hx hb dX7_tell_57 rfl hl (by decide) rfl (fun ls hl => ?_)
  refine lv_iload_n hx hb dX7_tell_58 rfl (lv_at hl 3 rfl) ?_
  refine lv_if_ne (tgt := 66) hx hb dX7_tell_59 (by decide) (fun hc38 => ?_) (fun hc38 => ?_)
  · have hD := ite_n hc38 hD
    refine lv_iload_n hx hb dX7_tell_66 rfl (lv_at hl 3 rfl) ?_
    refine lv_iconst (v := 1) hx hb dX7_tell_67 (by decide) ?_
    refine lv_icmp_ne (tgt := 78) hx hb dX7_tell_68 (by decide) (fun hc41 => ?_) (fun hc41 => ?_)
    · have hD := ite_n hc41 hD
      refine lv_iconst (v := 2) hx hb dX7_tell_78 (by decide) ?_
      refine lv_iload_n hx hb dX7_tell_79 rfl (lv_at hl 0 rfl) ?_
      refine lv_imul hx hb dX7_tell_80 ?_
      refine lv_bipush (v := 100) hx hb dX7_tell_81 (by decide) ?_
      refine lv_iadd hx hb dX7_tell_83 ?_
      exact r_iret2 X I hD dX7_tell_84
    · have hD := ite_p hc41 hD
      refine lv_iload_n hx hb dX7_tell_71 rfl (lv_at hl 0 rfl) ?_
      refine lv_bipush (v := 100) hx hb dX7_tell_72 (by decide) ?_
      refine lv_iadd hx hb dX7_tell_74 ?_
      refine lv_goto (tgt := 84) hx hb dX7_tell_75 (by decide) ?_
      exact r_iret2 X I hD dX7_tell_84
  · have hD := ite_p hc38 hD
    refine lv_iload_n hx hb dX7_tell_62 rfl (lv_at hl 0 rfl) ?_
    refine lv_goto (tgt := 84) hx hb dX7_tell_63 (by decide) ?_
    exact r_iret2 X I hD dX7_tell_84
def D_X7_tell_36 (σ : St) (v1 : Int32) (v2 : Int32) : Option (Int32 × St) := (D_X7_traced σ (1 : Int32)).bind fun y25 => if v2 = (2 : Int32) then (D_X7_traced y25 (1 : Int32)).bind fun y31 => D_X7_tell_51 y31 v1 v2 else D_X7_tell_51 y25 v1 v2
set_option maxRecDepth 100000 in
set_option maxHeartbeats 4000000 in
theorem w_X7_tell_36 {p : Program} {l : Launch} {e : Env} {s : State} {m : MethodId} {args : Array Value} {below : List Frame} {meth : Method} {c : Code} (g : Gh) (q : Nat → Nat) (X : MX p s m args meth c cX7_tell 4 (some .int) RX7) {rr : (Int32 × St)} (σ : St)  (v1 : Int32) (v2 : Int32) (hD : D_X7_tell_36 σ v1 v2 = some rr) (H : Heap) (locs : List Loc) (ls : Array Slot) (I : IM g q s σ H locs) (hl : lv_has ls 4 [(0, .ref (q 0)), (1, .int v1), (2, .int v2)]) : W p l e (rmD 2) s m args below meth c H locs 0 0 (MQ below (QI g (eM g q) q 22 rr.1 rr.2 s.heap.size) args s 0 0 (AQ q 22 s.heap.size)) (F0 m 36 ls []) := by
  have hx := X.1
  have hb := X.2.1
  unfold D_X7_tell_36 at hD
  refine lv_aload_n hx hb dX7_tell_36 rfl (lv_at hl 0 rfl) ?_
  refine lv_iconst (v := 1) hx hb dX7_tell_37 (by decide) ?_
  obtain ⟨y25, hy25, hD⟩ := bd_s hD
  refine r_callv (r_runV (As := [.int (1 : Int32)]) (rest := []) X I (c_X7_traced l g q _ σ (1 : Int32) hy25) kv_X7_traced ml_X7_242 rfl (by decide) (eM_Model g q _) ⟨Nat.le_of_ble_eq_true rfl, Nat.le_of_ble_eq_true rfl⟩ ⟨Nat.zero_le _, Nat.zero_le _⟩ rfl rfl hl.1 (Nat.le_of_ble_eq_true rfl) dX7_tell_38) I (fun H locs I => ?_)
  refine lv_iload_n hx hb dX7_tell_41 rfl (lv_at hl 2 rfl) ?_
  refine lv_iconst (v := 2) hx hb dX7_tell_42 (by decide) ?_
  refine lv_icmp_ne (tgt := 51) hx hb dX7_tell_43 (by decide) (fun hc28 => ?_) (fun hc28 => ?_)
  · have hD := ite_n hc28 hD
    exact w_X7_tell_51 g q X y25 v1 v2 hD _ _ _ I (lv_sub hl [0, 1, 2] rfl)
  · have hD := ite_p hc28 hD
    refine lv_aload_n hx hb dX7_tell_46 rfl (lv_at hl 0 rfl) ?_
    refine lv_iconst (v := 1) hx hb dX7_tell_47 (by decide) ?_
    obtain ⟨y31, hy31, hD⟩ := bd_s hD
    refine r_callv (r_runV (As := [.int (1 : Int32)]) (rest := []) X I (c_X7_traced l g q _ y25 (1 : Int32) hy31) kv_X7_traced ml_X7_242 rfl (by decide) (eM_Model g q _) ⟨Nat.le_of_ble_eq_true rfl, Nat.le_of_ble_eq_true rfl⟩ ⟨Nat.zero_le _, Nat.zero_le _⟩ rfl rfl hl.1 (Nat.le_of_ble_eq_true rfl) dX7_tell_48) I (fun H locs I => ?_)
    exact w_X7_tell_51 g q X y31 v1 v2 hD _ _ _ I (lv_sub hl [0, 1, 2] rfl)
def D_X7_tell_27 (σ : St) (v1 : Int32) (v2 : Int32) : Option (Int32 × St) := if v2 ≤ 0 then D_X7_tell_36 σ v1 v2 else (D_X7_traced σ (2 : Int32)).bind fun y22 => D_X7_tell_36 y22 v1 v2
set_option maxRecDepth 100000 in
set_option maxHeartbeats 4000000 in
theorem w_X7_tell_27 {p : Program} {l : Launch} {e : Env} {s : State} {m : MethodId} {args : Array Value} {below : List Frame} {meth : Method} {c : Code} (g : Gh) (q : Nat → Nat) (X : MX p s m args meth c cX7_tell 4 (some .int) RX7) {rr : (Int32 × St)} (σ : St)  (v1 : Int32) (v2 : Int32) (hD : D_X7_tell_27 σ v1 v2 = some rr) (H : Heap) (locs : List Loc) (ls : Array Slot) (I : IM g q s σ H locs) (hl : lv_has ls 4 [(0, .ref (q 0)), (1, .int v1), (2, .int v2)]) : W p l e (rmD 2) s m args below meth c H locs 0 0 (MQ below (QI g (eM g q) q 22 rr.1 rr.2 s.heap.size) args s 0 0 (AQ q 22 s.heap.size)) (F0 m 27 ls []) := by
  have hx := X.1
  have hb := X.2.1
  unfold D_X7_tell_27 at hD
  refine lv_iload_n hx hb dX7_tell_27 rfl (lv_at hl 2 rfl) ?_
  refine lv_if_le (tgt := 36) hx hb dX7_tell_28 (by decide) (fun hc19 => ?_) (fun hc19 => ?_)
  · have hD := ite_p hc19 hD
    exact w_X7_tell_36 g q X σ v1 v2 hD _ _ _ I (lv_sub hl [0, 1, 2] rfl)
  · have hD := ite_n hc19 hD
    refine lv_aload_n hx hb dX7_tell_31 rfl (lv_at hl 0 rfl) ?_
    refine lv_iconst (v := 2) hx hb dX7_tell_32 (by decide) ?_
    obtain ⟨y22, hy22, hD⟩ := bd_s hD
    refine r_callv (r_runV (As := [.int (2 : Int32)]) (rest := []) X I (c_X7_traced l g q _ σ (2 : Int32) hy22) kv_X7_traced ml_X7_242 rfl (by decide) (eM_Model g q _) ⟨Nat.le_of_ble_eq_true rfl, Nat.le_of_ble_eq_true rfl⟩ ⟨Nat.zero_le _, Nat.zero_le _⟩ rfl rfl hl.1 (Nat.le_of_ble_eq_true rfl) dX7_tell_33) I (fun H locs I => ?_)
    exact w_X7_tell_36 g q X y22 v1 v2 hD _ _ _ I (lv_sub hl [0, 1, 2] rfl)
def D_X7_tell (σ : St) (p1 : Int32) : Option (Int32 × St) := (D_X7_noRider σ p1).bind fun y3 => if y3 = 0 then gd (inb p1 4) (if (σ 2 p1.toNatClampNeg) = (2 : Int32) then (D_X7_traced σ (3 : Int32)).bind fun y15 => D_X7_tell_27 y15 p1 (σ 2 p1.toNatClampNeg) else D_X7_tell_27 σ p1 (σ 2 p1.toNatClampNeg)) else some ((-1 : Int32), σ)
set_option maxRecDepth 100000 in
set_option maxHeartbeats 4000000 in
theorem c_X7_tell (l : Launch) (g : Gh) (q : Nat → Nat) (sz : Nat) (σ : St) (p1 : Int32) {rr : (Int32 × St)} (hD : D_X7_tell σ p1 = some rr) : Met l yX7_tell (wU yX7_tell cX7_tell 4 (some .int)) (rmD 2) (PQ g (eM g q) q 22 σ sz [.ref (q 0), .int p1]) (QI g (eM g q) q 22 rr.1 rr.2 sz) 0 0 (AQ q 22 sz) := by
  refine met_of (Qc := QI g (eM g q) q 22 rr.1 rr.2) (by decide) (Nat.le_of_ble_eq_true rfl) ?_
  intro p e s m below meth c ls X I hl
  have hx := X.1
  have hb := X.2.1
  have hl : lv_has ls 4 [(0, .ref (q 0)), (1, .int p1)] := hl
  unfold D_X7_tell at hD
  refine lv_aload_n hx hb dX7_tell_0 rfl (lv_at hl 0 rfl) ?_
  refine lv_iload_n hx hb dX7_tell_1 rfl (lv_at hl 1 rfl) ?_
  obtain ⟨y3, hy3, hD⟩ := bd_s hD
  refine r_calli (r_runV (As := [.int p1]) (rest := []) X I (c_X7_noRider l g q _ σ p1 hy3) kv_X7_noRider ml_X7_158 rfl (by decide) (eM_Model g q _) ⟨Nat.le_of_ble_eq_true rfl, Nat.le_of_ble_eq_true rfl⟩ ⟨Nat.zero_le _, Nat.zero_le _⟩ rfl rfl hl.1 (Nat.le_of_ble_eq_true rfl) dX7_tell_2) I (fun H locs I => ?_)
  refine lv_if_eq (tgt := 10) hx hb dX7_tell_5 (by decide) (fun hc4 => ?_) (fun hc4 => ?_)
  · have hD := ite_p hc4 hD
    refine lv_aload_n hx hb dX7_tell_10 rfl (lv_at hl 0 rfl) ?_
    refine g_Model_kindOf X I fl_X7_13 dX7_tell_11 ?_
    refine lv_iload_n hx hb dX7_tell_14 rfl (lv_at hl 1 rfl) ?_
    obtain ⟨hg8, hD⟩ := gd_s hD
    refine r_iald X I (by decide) ((eMa_2 g q) _) hg8 dX7_tell_15 ?_
    refine lv_istore_n (lv' := [(2, .int (σ 2 p1.toNatClampNeg)), (0, .ref (q 0)), (1, .int p1)]) hx hb dX7_tell_16 rfl hl (by decide) rfl (fun ls hl => ?_)
    refine lv_iload_n hx hb dX7_tell_17 rfl (lv_at hl 0 rfl) ?_
    refine lv_iconst (v := 2) hx hb dX7_tell_18 (by decide) ?_
    refine lv_icmp_ne (tgt := 27) hx hb dX7_tell_19 (by decide) (fun hc12 => ?_) (fun hc12 => ?_)
    · have hD := ite_n hc12 hD
      exact w_X7_tell_27 g q X σ p1 (σ 2 p1.toNatClampNeg) hD _ _ _ I (lv_sub hl [1, 2, 0] rfl)
    · have hD := ite_p hc12 hD
      refine lv_aload_n hx hb dX7_tell_22 rfl (lv_at hl 1 rfl) ?_
      refine lv_iconst (v := 3) hx hb dX7_tell_23 (by decide) ?_
      obtain ⟨y15, hy15, hD⟩ := bd_s hD
      refine r_callv (r_runV (As := [.int (3 : Int32)]) (rest := []) X I (c_X7_traced l g q _ σ (3 : Int32) hy15) kv_X7_traced ml_X7_242 rfl (by decide) (eM_Model g q _) ⟨Nat.le_of_ble_eq_true rfl, Nat.le_of_ble_eq_true rfl⟩ ⟨Nat.zero_le _, Nat.zero_le _⟩ rfl rfl hl.1 (Nat.le_of_ble_eq_true rfl) dX7_tell_24) I (fun H locs I => ?_)
      exact w_X7_tell_27 g q X y15 p1 (σ 2 p1.toNatClampNeg) hD _ _ _ I (lv_sub hl [1, 2, 0] rfl)
  · have hD := ite_n hc4 hD
    refine lv_iconst (v := -1) hx hb dX7_tell_8 (by decide) ?_
    exact r_iret2 X I hD dX7_tell_9

/-! YearDeckModel.ring(I)I -/
def D_X7_ring_26 (σ : St) (v1 : Int32) (t0 : Int32) : Option (Int32 × St) := (D_X7_traced σ t0).bind fun y17 => gd (inb v1 4) (if (y17 2 v1.toNatClampNeg) = (2 : Int32) then some ((60 : Int32), y17) else some (v1, y17))
set_option maxRecDepth 100000 in
set_option maxHeartbeats 4000000 in
theorem w_X7_ring_26 {p : Program} {l : Launch} {e : Env} {s : State} {m : MethodId} {args : Array Value} {below : List Frame} {meth : Method} {c : Code} (g : Gh) (q : Nat → Nat) (X : MX p s m args meth c cX7_ring 2 (some .int) RX7) {rr : (Int32 × St)} (σ : St)  (v1 : Int32) (t0 : Int32) (hD : D_X7_ring_26 σ v1 t0 = some rr) (H : Heap) (locs : List Loc) (ls : Array Slot) (I : IM g q s σ H locs) (hl : lv_has ls 2 [(0, .ref (q 0)), (1, .int v1)]) : W p l e (rmD 2) s m args below meth c H locs 0 0 (MQ below (QI g (eM g q) q 22 rr.1 rr.2 s.heap.size) args s 0 0 (AQ q 22 s.heap.size)) (F0 m 26 ls [.int t0, .ref (q 0)]) := by
  have hx := X.1
  have hb := X.2.1
  unfold D_X7_ring_26 at hD
  obtain ⟨y17, hy17, hD⟩ := bd_s hD
  refine r_callv (r_runV (As := [.int t0]) (rest := []) X I (c_X7_traced l g q _ σ t0 hy17) kv_X7_traced ml_X7_242 rfl (by decide) (eM_Model g q _) ⟨Nat.le_of_ble_eq_true rfl, Nat.le_of_ble_eq_true rfl⟩ ⟨Nat.zero_le _, Nat.zero_le _⟩ rfl rfl hl.1 (Nat.le_of_ble_eq_true rfl) dX7_ring_26) I (fun H locs I => ?_)
  refine lv_aload_n hx hb dX7_ring_29 rfl (lv_at hl 0 rfl) ?_
  refine g_Model_kindOf X I fl_X7_13 dX7_ring_30 ?_
  refine lv_iload_n hx hb dX7_ring_33 rfl (lv_at hl 1 rfl) ?_
  obtain ⟨hg21, hD⟩ := gd_s hD
  refine r_iald X I (by decide) ((eMa_2 g q) _) hg21 dX7_ring_34 ?_
  refine lv_iconst (v := 2) hx hb dX7_ring_35 (by decide) ?_
  refine lv_icmp_ne (tgt := 44) hx hb dX7_ring_36 (by decide) (fun hc23 => ?_) (fun hc23 => ?_)
  · have hD := ite_n hc23 hD
    refine lv_iload_n hx hb dX7_ring_44 rfl (lv_at hl 1 rfl) ?_
    exact r_iret2 X I hD dX7_ring_45
  · have hD := ite_p hc23 hD
    refine lv_bipush (v := 60) hx hb dX7_ring_39 (by decide) ?_
    refine lv_goto (tgt := 45) hx hb dX7_ring_41 (by decide) ?_
    exact r_iret2 X I hD dX7_ring_45
def D_X7_ring (σ : St) (p1 : Int32) : Option (Int32 × St) := (D_X7_noRider σ p1).bind fun y3 => if y3 = 0 then gd (inb p1 4) (if (σ 2 p1.toNatClampNeg) = (2 : Int32) then D_X7_ring_26 σ p1 (5 : Int32) else D_X7_ring_26 σ p1 (4 : Int32)) else some ((-1 : Int32), σ)
set_option maxRecDepth 100000 in
set_option maxHeartbeats 4000000 in
theorem c_X7_ring (l : Launch) (g : Gh) (q : Nat → Nat) (sz : Nat) (σ : St) (p1 : Int32) {rr : (Int32 × St)} (hD : D_X7_ring σ p1 = some rr) : Met l yX7_ring (wU yX7_ring cX7_ring 2 (some .int)) (rmD 2) (PQ g (eM g q) q 22 σ sz [.ref (q 0), .int p1]) (QI g (eM g q) q 22 rr.1 rr.2 sz) 0 0 (AQ q 22 sz) := by
  refine met_of (Qc := QI g (eM g q) q 22 rr.1 rr.2) (by decide) (Nat.le_of_ble_eq_true rfl) ?_
  intro p e s m below meth c ls X I hl
  have hx := X.1
  have hb := X.2.1
  have hl : lv_has ls 2 [(0, .ref (q 0)), (1, .int p1)] := hl
  unfold D_X7_ring at hD
  refine lv_aload_n hx hb dX7_ring_0 rfl (lv_at hl 0 rfl) ?_
  refine lv_iload_n hx hb dX7_ring_1 rfl (lv_at hl 1 rfl) ?_
  obtain ⟨y3, hy3, hD⟩ := bd_s hD
  refine r_calli (r_runV (As := [.int p1]) (rest := []) X I (c_X7_noRider l g q _ σ p1 hy3) kv_X7_noRider ml_X7_158 rfl (by decide) (eM_Model g q _) ⟨Nat.le_of_ble_eq_true rfl, Nat.le_of_ble_eq_true rfl⟩ ⟨Nat.zero_le _, Nat.zero_le _⟩ rfl rfl hl.1 (Nat.le_of_ble_eq_true rfl) dX7_ring_2) I (fun H locs I => ?_)
  refine lv_if_eq (tgt := 10) hx hb dX7_ring_5 (by decide) (fun hc4 => ?_) (fun hc4 => ?_)
  · have hD := ite_p hc4 hD
    refine lv_aload_n hx hb dX7_ring_10 rfl (lv_at hl 0 rfl) ?_
    refine lv_aload_n hx hb dX7_ring_11 rfl (lv_at hl 0 rfl) ?_
    refine g_Model_kindOf X I fl_X7_13 dX7_ring_12 ?_
    refine lv_iload_n hx hb dX7_ring_15 rfl (lv_at hl 1 rfl) ?_
    obtain ⟨hg9, hD⟩ := gd_s hD
    refine r_iald X I (by decide) ((eMa_2 g q) _) hg9 dX7_ring_16 ?_
    refine lv_iconst (v := 2) hx hb dX7_ring_17 (by decide) ?_
    refine lv_icmp_ne (tgt := 25) hx hb dX7_ring_18 (by decide) (fun hc11 => ?_) (fun hc11 => ?_)
    · have hD := ite_n hc11 hD
      refine lv_iconst (v := 4) hx hb dX7_ring_25 (by decide) ?_
      exact w_X7_ring_26 g q X σ p1 (4 : Int32) hD _ _ _ I (lv_sub hl [0, 1] rfl)
    · have hD := ite_p hc11 hD
      refine lv_iconst (v := 5) hx hb dX7_ring_21 (by decide) ?_
      refine lv_goto (tgt := 26) hx hb dX7_ring_22 (by decide) ?_
      exact w_X7_ring_26 g q X σ p1 (5 : Int32) hD _ _ _ I (lv_sub hl [0, 1] rfl)
  · have hD := ite_n hc4 hD
    refine lv_iconst (v := -1) hx hb dX7_ring_8 (by decide) ?_
    exact r_iret2 X I hD dX7_ring_9

/-! YearDeckModel.as(II)I -/
def D_X7_as (σ : St) (p1 : Int32) (p2 : Int32) : Option (Int32 × St) := (D_X7_noRider σ p1).bind fun y3 => if y3 = 0 then (D_X7_in σ p2.toInt64 (0 : Int64) (2 : Int64)).bind fun y9 => if y9 = 0 then (D_X7_refused σ (-2 : Int32)).bind fun y28 => some (y28.1, y28.2) else gd (inb p1 4) (if (σ 2 p1.toNatClampNeg) < p2 then (D_X7_failed σ (2 : Int32)).bind fun y19 => some (y19.1, y19.2) else (D_X7_refused σ (1 : Int32)).bind fun y23 => some (y23.1, y23.2)) else (D_X7_refused σ (-1 : Int32)).bind fun y32 => some (y32.1, y32.2)
set_option maxRecDepth 100000 in
set_option maxHeartbeats 4000000 in
theorem c_X7_as (l : Launch) (g : Gh) (q : Nat → Nat) (sz : Nat) (σ : St) (p1 : Int32) (p2 : Int32) {rr : (Int32 × St)} (hD : D_X7_as σ p1 p2 = some rr) : Met l yX7_as (wU yX7_as cX7_as 3 (some .int)) (rmD 2) (PQ g (eM g q) q 22 σ sz [.ref (q 0), .int p1, .int p2]) (QI g (eM g q) q 22 rr.1 rr.2 sz) 0 0 (AQ q 22 sz) := by
  refine met_of (Qc := QI g (eM g q) q 22 rr.1 rr.2) (by decide) (Nat.le_of_ble_eq_true rfl) ?_
  intro p e s m below meth c ls X I hl
  have hx := X.1
  have hb := X.2.1
  have hl : lv_has ls 3 [(0, .ref (q 0)), (1, .int p1), (2, .int p2)] := hl
  unfold D_X7_as at hD
  refine lv_aload_n hx hb dX7_as_0 rfl (lv_at hl 0 rfl) ?_
  refine lv_iload_n hx hb dX7_as_1 rfl (lv_at hl 1 rfl) ?_
  obtain ⟨y3, hy3, hD⟩ := bd_s hD
  refine r_calli (r_runV (As := [.int p1]) (rest := []) X I (c_X7_noRider l g q _ σ p1 hy3) kv_X7_noRider ml_X7_158 rfl (by decide) (eM_Model g q _) ⟨Nat.le_of_ble_eq_true rfl, Nat.le_of_ble_eq_true rfl⟩ ⟨Nat.zero_le _, Nat.zero_le _⟩ rfl rfl hl.1 (Nat.le_of_ble_eq_true rfl) dX7_as_2) I (fun H locs I => ?_)
  refine lv_if_eq (tgt := 14) hx hb dX7_as_5 (by decide) (fun hc4 => ?_) (fun hc4 => ?_)
  · have hD := ite_p hc4 hD
    refine lv_iload_n hx hb dX7_as_14 rfl (lv_at hl 2 rfl) ?_
    refine lv_i2l hx hb dX7_as_15 rfl ?_
    refine lv_lconst (v := 0) hx hb dX7_as_16 rfl ?_
    refine lv_ldc2 (v := 2) hx hb X.2.2.2.2.1 (X.2.2.2.2.2.1 _ cl_X7_143) dX7_as_17 ?_
    obtain ⟨y9, hy9, hD⟩ := bd_s hD
    refine r_calli (r_runS (As := [.long p2.toInt64, .long (0 : Int64), .long (2 : Int64)]) (rest := []) X I (c_X7_in l g q _ σ p2.toInt64 (0 : Int64) (2 : Int64) hy9) ks_X7_in ml_X7_87 ⟨Nat.le_of_ble_eq_true rfl, Nat.le_of_ble_eq_true rfl⟩ ⟨Nat.zero_le _, Nat.zero_le _⟩ rfl rfl hl.1 (Nat.le_of_ble_eq_true rfl) dX7_as_20) I (fun H locs I => ?_)
    refine lv_if_ne (tgt := 33) hx hb dX7_as_23 (by decide) (fun hc10 => ?_) (fun hc10 => ?_)
    · have hD := ite_n hc10 hD
      refine lv_aload_n hx hb dX7_as_33 rfl (lv_at hl 0 rfl) ?_
      refine g_Model_kindOf X I fl_X7_13 dX7_as_34 ?_
      refine lv_iload_n hx hb dX7_as_37 rfl (lv_at hl 1 rfl) ?_
      obtain ⟨hg14, hD⟩ := gd_s hD
      refine r_iald X I (by decide) ((eMa_2 g q) _) hg14 dX7_as_38 ?_
      refine lv_iload_n hx hb dX7_as_39 rfl (lv_at hl 2 rfl) ?_
      refine lv_icmp_lt (tgt := 51) hx hb dX7_as_40 (by decide) (fun hc16 => ?_) (fun hc16 => ?_)
      · have hD := ite_p hc16 hD
        refine lv_aload_n hx hb dX7_as_51 rfl (lv_at hl 0 rfl) ?_
        refine lv_iconst (v := 2) hx hb dX7_as_52 (by decide) ?_
        obtain ⟨y19, hy19, hD⟩ := bd_s hD
        refine r_calli (r_runV (As := [.int (2 : Int32)]) (rest := []) X I (c_X7_failed l g q _ σ (2 : Int32) hy19) kv_X7_failed ml_X7_129 rfl (by decide) (eM_Model g q _) ⟨Nat.le_of_ble_eq_true rfl, Nat.le_of_ble_eq_true rfl⟩ ⟨Nat.zero_le _, Nat.zero_le _⟩ rfl rfl hl.1 (Nat.le_of_ble_eq_true rfl) dX7_as_53) I (fun H locs I => ?_)
        exact r_iret2 X I hD dX7_as_56
      · have hD := ite_n hc16 hD
        refine lv_aload_n hx hb dX7_as_43 rfl (lv_at hl 0 rfl) ?_
        refine lv_iconst (v := 1) hx hb dX7_as_44 (by decide) ?_
        obtain ⟨y23, hy23, hD⟩ := bd_s hD
        refine r_calli (r_runV (As := [.int (1 : Int32)]) (rest := []) X I (c_X7_refused l g q _ σ (1 : Int32) hy23) kv_X7_refused ml_X7_140 rfl (by decide) (eM_Model g q _) ⟨Nat.le_of_ble_eq_true rfl, Nat.le_of_ble_eq_true rfl⟩ ⟨Nat.zero_le _, Nat.zero_le _⟩ rfl rfl hl.1 (Nat.le_of_ble_eq_true rfl) dX7_as_45) I (fun H locs I => ?_)
        refine lv_goto (tgt := 56) hx hb dX7_as_48 (by decide) ?_
        exact r_iret2 X I hD dX7_as_56
    · have hD := ite_p hc10 hD
      refine lv_aload_n hx hb dX7_as_26 rfl (lv_at hl 0 rfl) ?_
      refine lv_bipush (v := -2) hx hb dX7_as_27 (by decide) ?_
      obtain ⟨y28, hy28, hD⟩ := bd_s hD
      refine r_calli (r_runV (As := [.int (-2 : Int32)]) (rest := []) X I (c_X7_refused l g q _ σ (-2 : Int32) hy28) kv_X7_refused ml_X7_140 rfl (by decide) (eM_Model g q _) ⟨Nat.le_of_ble_eq_true rfl, Nat.le_of_ble_eq_true rfl⟩ ⟨Nat.zero_le _, Nat.zero_le _⟩ rfl rfl hl.1 (Nat.le_of_ble_eq_true rfl) dX7_as_29) I (fun H locs I => ?_)
      exact r_iret2 X I hD dX7_as_32
  · have hD := ite_n hc4 hD
    refine lv_aload_n hx hb dX7_as_8 rfl (lv_at hl 0 rfl) ?_
    refine lv_iconst (v := -1) hx hb dX7_as_9 (by decide) ?_
    obtain ⟨y32, hy32, hD⟩ := bd_s hD
    refine r_calli (r_runV (As := [.int (-1 : Int32)]) (rest := []) X I (c_X7_refused l g q _ σ (-1 : Int32) hy32) kv_X7_refused ml_X7_140 rfl (by decide) (eM_Model g q _) ⟨Nat.le_of_ble_eq_true rfl, Nat.le_of_ble_eq_true rfl⟩ ⟨Nat.zero_le _, Nat.zero_le _⟩ rfl rfl hl.1 (Nat.le_of_ble_eq_true rfl) dX7_as_10) I (fun H locs I => ?_)
    exact r_iret2 X I hD dX7_as_13

/-! YearDeckModel.trace()I -/
def D_X7_trace (σ : St) : Option Int32 := some (σ 0 30)
set_option maxRecDepth 100000 in
set_option maxHeartbeats 4000000 in
theorem c_X7_trace (l : Launch) (g : Gh) (q : Nat → Nat) (sz : Nat) (σ : St) {rr : Int32} (hD : D_X7_trace σ = some rr) : Met l yX7_trace (wU yX7_trace cX7_trace 1 (some .int)) (rmD 0) (PQ g (eM g q) q 22 σ sz [.ref (q 0)]) (QI g (eM g q) q 22 rr σ sz) 0 0 (AQ q 22 sz) := by
  refine met_of (Qc := QI g (eM g q) q 22 rr σ) (by decide) (Nat.le_of_ble_eq_true rfl) ?_
  intro p e s m below meth c ls X I hl
  have hx := X.1
  have hb := X.2.1
  have hl : lv_has ls 1 [(0, .ref (q 0))] := hl
  unfold D_X7_trace at hD
  refine lv_aload_n hx hb dX7_trace_0 rfl (lv_at hl 0 rfl) ?_
  refine g_Model_traceNow X I fl_X7_239 dX7_trace_1 ?_
  exact r_iret X I hD dX7_trace_4

/-! YearDeckModel.fault()I -/
def D_X7_fault (σ : St) : Option Int32 := some (σ 0 0)
set_option maxRecDepth 100000 in
set_option maxHeartbeats 4000000 in
theorem c_X7_fault (l : Launch) (g : Gh) (q : Nat → Nat) (sz : Nat) (σ : St) {rr : Int32} (hD : D_X7_fault σ = some rr) : Met l yX7_fault (wU yX7_fault cX7_fault 1 (some .int)) (rmD 0) (PQ g (eM g q) q 22 σ sz [.ref (q 0)]) (QI g (eM g q) q 22 rr σ sz) 0 0 (AQ q 22 sz) := by
  refine met_of (Qc := QI g (eM g q) q 22 rr σ) (by decide) (Nat.le_of_ble_eq_true rfl) ?_
  intro p e s m below meth c ls X I hl
  have hx := X.1
  have hb := X.2.1
  have hl : lv_has ls 1 [(0, .ref (q 0))] := hl
  unfold D_X7_fault at hD
  refine lv_aload_n hx hb dX7_fault_0 rfl (lv_at hl 0 rfl) ?_
  refine g_Model_fault X I fl_X7_76 dX7_fault_1 ?_
  exact r_iret X I hD dX7_fault_4

/-! YearDeckModel.many(I)I -/
def D_X7_many (σ : St) (p1 : Int32) : Option Int32 := if p1 = (0 : Int32) then some (σ 0 4) else if p1 = (1 : Int32) then some (σ 0 2) else if p1 = (2 : Int32) then some (σ 0 1) else if p1 = (3 : Int32) then some (σ 0 22) else some (-2 : Int32)
set_option maxRecDepth 100000 in
set_option maxHeartbeats 4000000 in
theorem c_X7_many (l : Launch) (g : Gh) (q : Nat → Nat) (sz : Nat) (σ : St) (p1 : Int32) {rr : Int32} (hD : D_X7_many σ p1 = some rr) : Met l yX7_many (wU yX7_many cX7_many 2 (some .int)) (rmD 0) (PQ g (eM g q) q 22 σ sz [.ref (q 0), .int p1]) (QI g (eM g q) q 22 rr σ sz) 0 0 (AQ q 22 sz) := by
  refine met_of (Qc := QI g (eM g q) q 22 rr σ) (by decide) (Nat.le_of_ble_eq_true rfl) ?_
  intro p e s m below meth c ls X I hl
  have hx := X.1
  have hb := X.2.1
  have hl : lv_has ls 2 [(0, .ref (q 0)), (1, .int p1)] := hl
  unfold D_X7_many at hD
  refine lv_iload_n hx hb dX7_many_0 rfl (lv_at hl 1 rfl) ?_
  by_cases hc3 : p1 = (0 : Int32)
  · have hD := ite_p hc3 hD
    refine lv_tableIn (off := 31) (tgt := 32) hx hb dX7_many_1 (by rw [hc3]; decide) (by rw [hc3]; decide) (by rw [hc3]; rfl) (by decide) ?_
    refine lv_aload_n hx hb dX7_many_32 rfl (lv_at hl 0 rfl) ?_
    refine g_Model_riders X I fl_X7_91 dX7_many_33 ?_
    exact r_iret X I hD dX7_many_36
  · have hD := ite_n hc3 hD
    by_cases hc7 : p1 = (1 : Int32)
    · have hD := ite_p hc7 hD
      refine lv_tableIn (off := 36) (tgt := 37) hx hb dX7_many_1 (by rw [hc7]; decide) (by rw [hc7]; decide) (by rw [hc7]; rfl) (by decide) ?_
      refine lv_aload_n hx hb dX7_many_37 rfl (lv_at hl 0 rfl) ?_
      refine g_Model_sections X I fl_X7_84 dX7_many_38 ?_
      exact r_iret X I hD dX7_many_41
    · have hD := ite_n hc7 hD
      by_cases hc11 : p1 = (2 : Int32)
      · have hD := ite_p hc11 hD
        refine lv_tableIn (off := 41) (tgt := 42) hx hb dX7_many_1 (by rw [hc11]; decide) (by rw [hc11]; decide) (by rw [hc11]; rfl) (by decide) ?_
        refine lv_aload_n hx hb dX7_many_42 rfl (lv_at hl 0 rfl) ?_
        refine g_Model_seats X I fl_X7_152 dX7_many_43 ?_
        exact r_iret X I hD dX7_many_46
      · have hD := ite_n hc11 hD
        by_cases hc15 : p1 = (3 : Int32)
        · have hD := ite_p hc15 hD
          refine lv_tableIn (off := 46) (tgt := 47) hx hb dX7_many_1 (by rw [hc15]; decide) (by rw [hc15]; decide) (by rw [hc15]; rfl) (by decide) ?_
          refine lv_aload_n hx hb dX7_many_47 rfl (lv_at hl 0 rfl) ?_
          refine g_Model_readings X I fl_X7_155 dX7_many_48 ?_
          exact r_iret X I hD dX7_many_51
        · have hD := ite_n hc15 hD
          have ho3 := ne_toInt hc3 (a := 0) (by decide)
          have ho7 := ne_toInt hc7 (a := 1) (by decide)
          have ho11 := ne_toInt hc11 (a := 2) (by decide)
          have ho15 := ne_toInt hc15 (a := 3) (by decide)
          refine lv_tableOut (tgt := 52) hx hb dX7_many_1 (by omega) (by decide) ?_
          refine lv_bipush (v := -2) hx hb dX7_many_52 (by decide) ?_
          exact r_iret X I hD dX7_many_54
