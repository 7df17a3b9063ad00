/-! YearDeckModel.in(JJJ)Z -/
def D_X7_in (σ : St) (p0 : Int64) (p2 : Int64) (p4 : Int64) : Option Int32 := if (lg_cmp p0 p2) < 0 then some (0 : Int32) else if 0 < (lg_cmp p0 p4) then some (0 : Int32) else some (1 : Int32)
set_option maxRecDepth 100000 in
set_option maxHeartbeats 4000000 in
theorem c_X7_in (l : Launch) (g : Gh) (q : Nat → Nat) (sz : Nat) (σ : St) (p0 : Int64) (p2 : Int64) (p4 : Int64) {rr : Int32} (hD : D_X7_in σ p0 p2 p4 = some rr) : Met l yX7_in (wU yX7_in cX7_in 6 (some .boolean)) (rmD 0) (PQ g (eM g q) q 22 σ sz [.long p0, .long p2, .long p4]) (QI g (eM g q) q 22 rr σ sz) 0 0 (AQ q 22 sz) := by
  refine met_of (Qc := QI g (eM g q) q 22 rr σ) (by decide) (Nat.le_of_ble_eq_true rfl) ?_
  intro p e s m below meth c ls X I hl
  have hx := X.1
  have hb := X.2.1
  have hl : lv_has ls 6 [(0, .long p0), (2, .long p2), (4, .long p4)] := hl
  unfold D_X7_in at hD
  refine lv_lload_n hx hb dX7_in_0 rfl (lv_at hl 0 rfl) ?_
  refine lv_lload_n hx hb dX7_in_1 rfl (lv_at hl 1 rfl) ?_
  refine W.lcmp hx hb dX7_in_2 ?_
  refine lv_if_lt (tgt := 17) hx hb dX7_in_3 (by decide) (fun hc4 => ?_) (fun hc4 => ?_)
  · have hD := ite_p hc4 hD
    refine lv_iconst (v := 0) hx hb dX7_in_17 (by decide) ?_
    exact r_zret X I hD rfl dX7_in_18
  · have hD := ite_n hc4 hD
    refine lv_lload_n hx hb dX7_in_6 rfl (lv_at hl 0 rfl) ?_
    refine lv_lload hx hb dX7_in_7 (lv_at hl 2 rfl) ?_
    refine W.lcmp hx hb dX7_in_9 ?_
    refine lv_if_gt (tgt := 17) hx hb dX7_in_10 (by decide) (fun hc10 => ?_) (fun hc10 => ?_)
    · have hD := ite_p hc10 hD
      refine lv_iconst (v := 0) hx hb dX7_in_17 (by decide) ?_
      exact r_zret X I hD rfl dX7_in_18
    · have hD := ite_n hc10 hD
      refine lv_iconst (v := 1) hx hb dX7_in_13 (by decide) ?_
      refine lv_goto (tgt := 18) hx hb dX7_in_14 (by decide) ?_
      exact r_zret X I hD rfl dX7_in_18

/-! YearDeckModel.lost()J -/
def D_X7_lost (σ : St) : Option Int64 := some (-9223372036854775808 : Int64)
set_option maxRecDepth 100000 in
set_option maxHeartbeats 4000000 in
theorem c_X7_lost (l : Launch) (g : Gh) (q : Nat → Nat) (sz : Nat) (σ : St) {rr : Int64} (hD : D_X7_lost σ = some rr) : Met l yX7_lost (wU yX7_lost cX7_lost 0 (some .long)) (rmD 0) (PQ g (eM g q) q 22 σ sz []) (QL g (eM g q) q 22 rr σ sz) 0 0 (AQ q 22 sz) := by
  refine met_of (Qc := QL g (eM g q) q 22 rr σ) (by decide) (Nat.le_of_ble_eq_true rfl) ?_
  intro p e s m below meth c ls X I hl
  have hx := X.1
  have hb := X.2.1
  have hl : lv_has ls 0 [] := hl
  unfold D_X7_lost at hD
  refine lv_ldc2 (v := -9223372036854775808) hx hb X.2.2.2.2.1 (X.2.2.2.2.2.1 _ cl_X7_74) dX7_lost_0 ?_
  exact r_lret X I hD dX7_lost_3

/-! YearDeckModel.isIn(II)Z -/
def D_X7_isIn (σ : St) (p0 : Int32) (p1 : Int32) : Option Int32 := if ((p0 >>> (p1 &&& 31)) &&& (1 : Int32)) = (1 : Int32) then some (1 : Int32) else some (0 : Int32)
set_option maxRecDepth 100000 in
set_option maxHeartbeats 4000000 in
theorem c_X7_isIn (l : Launch) (g : Gh) (q : Nat → Nat) (sz : Nat) (σ : St) (p0 : Int32) (p1 : Int32) {rr : Int32} (hD : D_X7_isIn σ p0 p1 = some rr) : Met l yX7_isIn (wU yX7_isIn cX7_isIn 2 (some .boolean)) (rmD 0) (PQ g (eM g q) q 22 σ sz [.int p0, .int p1]) (QI g (eM g q) q 22 rr σ sz) 0 0 (AQ q 22 sz) := by
  refine met_of (Qc := QI g (eM g q) q 22 rr σ) (by decide) (Nat.le_of_ble_eq_true rfl) ?_
  intro p e s m below meth c ls X I hl
  have hx := X.1
  have hb := X.2.1
  have hl : lv_has ls 2 [(0, .int p0), (1, .int p1)] := hl
  unfold D_X7_isIn at hD
  refine lv_iload_n hx hb dX7_isIn_0 rfl (lv_at hl 0 rfl) ?_
  refine lv_iload_n hx hb dX7_isIn_1 rfl (lv_at hl 1 rfl) ?_
  refine lv_ishr hx hb dX7_isIn_2 ?_
  refine lv_iconst (v := 1) hx hb dX7_isIn_3 (by decide) ?_
  refine lv_iand hx hb dX7_isIn_4 ?_
  refine lv_iconst (v := 1) hx hb dX7_isIn_5 (by decide) ?_
  refine lv_icmp_ne (tgt := 13) hx hb dX7_isIn_6 (by decide) (fun hc7 => ?_) (fun hc7 => ?_)
  · have hD := ite_n hc7 hD
    refine lv_iconst (v := 0) hx hb dX7_isIn_13 (by decide) ?_
    exact r_zret X I hD rfl dX7_isIn_14
  · have hD := ite_p hc7 hD
    refine lv_iconst (v := 1) hx hb dX7_isIn_9 (by decide) ?_
    refine lv_goto (tgt := 14) hx hb dX7_isIn_10 (by decide) ?_
    exact r_zret X I hD rfl dX7_isIn_14

/-! YearDeckModel.bits(I)I -/
def D_X7_bits_4b (σ : St) (rc4 : Int32 → Int32 → Option Int32) (v1 : Int32) (v2 : Int32) : Option Int32 := if v2 ≤ 0 then some v1 else rc4 (v1 + (v2 &&& (1 : Int32))) (v2 >>> ((1 : Int32) &&& 31))
set_option maxRecDepth 100000 in
set_option maxHeartbeats 4000000 in
theorem w_X7_bits_4b {p : Program} {l : Launch} {e : Env} {s : State} {m : MethodId} {args : Array Value} {below : List Frame} {meth : Method} {c : Code} (g : Gh) (q : Nat → Nat) (X : MX p s m args meth c cX7_bits 3 (some .int) RX7) {rr : Int32} (σ : St)  (v1 : Int32) (v2 : Int32) (rc4 : Int32 → Int32 → Option Int32) (hrc4 : ∀ (v1' : Int32) (v2' : Int32), rc4 v1' v2' = some rr → ∀ (H : Heap) (locs : List Loc) (ls : Array Slot), IM g q s σ H locs → lv_has ls 3 [(1, .int v1'), (2, .int v2')] → W p l e (rmD 0) s m args below meth c H locs 0 0 (MQ below (QI g (eM g q) q 22 rr σ s.heap.size) args s 0 0 (AQ q 22 s.heap.size)) (F0 m 4 ls [])) (hD : D_X7_bits_4b σ rc4 v1 v2 = some rr) (H : Heap) (locs : List Loc) (ls : Array Slot) (I : IM g q s σ H locs) (hl : lv_has ls 3 [(1, .int v1), (2, .int v2)]) : W p l e (rmD 0) s m args below meth c H locs 0 0 (MQ below (QI g (eM g q) q 22 rr σ s.heap.size) args s 0 0 (AQ q 22 s.heap.size)) (F0 m 4 ls []) := by
  have hx := X.1
  have hb := X.2.1
  unfold D_X7_bits_4b at hD
  refine lv_iload_n hx hb dX7_bits_4 rfl (lv_at hl 1 rfl) ?_
  refine lv_if_le (tgt := 21) hx hb dX7_bits_5 (by decide) (fun hc6 => ?_) (fun hc6 => ?_)
  · have hD := ite_p hc6 hD
    refine lv_iload_n hx hb dX7_bits_21 rfl (lv_at hl 0 rfl) ?_
    exact r_iret X I hD dX7_bits_22
  · have hD := ite_n hc6 hD
    refine lv_iload_n hx hb dX7_bits_8 rfl (lv_at hl 0 rfl) ?_
    refine lv_iload_n hx hb dX7_bits_9 rfl (lv_at hl 1 rfl) ?_
    refine lv_iconst (v := 1) hx hb dX7_bits_10 (by decide) ?_
    refine lv_iand hx hb dX7_bits_11 ?_
    refine lv_iadd hx hb dX7_bits_12 ?_
    refine lv_istore_n (lv' := [(1, .int (v1 + (v2 &&& (1 : Int32)))), (2, .int v2)]) hx hb dX7_bits_13 rfl hl (by decide) rfl (fun ls hl => ?_)
    refine lv_iload_n hx hb dX7_bits_14 rfl (lv_at hl 1 rfl) ?_
    refine lv_iconst (v := 1) hx hb dX7_bits_15 (by decide) ?_
    refine lv_ishr hx hb dX7_bits_16 ?_
    refine lv_istore_n (lv' := [(2, .int (v2 >>> ((1 : Int32) &&& 31))), (1, .int (v1 + (v2 &&& (1 : Int32))))]) hx hb dX7_bits_17 rfl hl (by decide) rfl (fun ls hl => ?_)
    refine lv_goto (tgt := 4) hx hb dX7_bits_18 (by decide) ?_
    exact hrc4 (v1 + (v2 &&& (1 : Int32))) (v2 >>> ((1 : Int32) &&& 31)) hD _ _ _ I (lv_sub hl [1, 0] rfl)
def D_X7_bits_4 (σ : St) : Nat → Int32 → Int32 → Option Int32
  | 0 => fun _ _ => none
  | n + 1 => fun v1 v2 => D_X7_bits_4b σ (D_X7_bits_4 σ n) v1 v2
set_option maxRecDepth 100000 in
set_option maxHeartbeats 4000000 in
theorem w_X7_bits_4 {p : Program} {l : Launch} {e : Env} {s : State} {m : MethodId} {args : Array Value} {below : List Frame} {meth : Method} {c : Code} (g : Gh) (q : Nat → Nat) (X : MX p s m args meth c cX7_bits 3 (some .int) RX7) {rr : Int32} (σ : St)  : ∀ (n : Nat) (v1 : Int32) (v2 : Int32), D_X7_bits_4 σ n v1 v2 = some rr → ∀ (H : Heap) (locs : List Loc) (ls : Array Slot), IM g q s σ H locs → lv_has ls 3 [(1, .int v1), (2, .int v2)] → W p l e (rmD 0) s m args below meth c H locs 0 0 (MQ below (QI g (eM g q) q 22 rr σ s.heap.size) args s 0 0 (AQ q 22 s.heap.size)) (F0 m 4 ls []) := by
  intro n
  induction n with
  | zero =>
    intro v1 v2 hD H locs ls I hl
    cases hD
  | succ n ih =>
    intro v1 v2 hD H locs ls I hl
    exact w_X7_bits_4b g q X σ v1 v2 _ ih hD H locs ls I hl
def D_X7_bits (σ : St) (p0 : Int32) : Option Int32 := D_X7_bits_4 σ FU (0 : Int32) p0
set_option maxRecDepth 100000 in
set_option maxHeartbeats 4000000 in
theorem c_X7_bits (l : Launch) (g : Gh) (q : Nat → Nat) (sz : Nat) (σ : St) (p0 : Int32) {rr : Int32} (hD : D_X7_bits σ p0 = some rr) : Met l yX7_bits (wU yX7_bits cX7_bits 3 (some .int)) (rmD 0) (PQ g (eM g q) q 22 σ sz [.int p0]) (QI g (eM g q) q 22 rr σ sz) 0 0 (AQ q 22 sz) := by
  refine met_of (Qc := QI g (eM g q) q 22 rr σ) (by decide) (Nat.le_of_ble_eq_true rfl) ?_
  intro p e s m below meth c ls X I hl
  have hx := X.1
  have hb := X.2.1
  have hl : lv_has ls 3 [(0, .int p0)] := hl
  unfold D_X7_bits at hD
  refine lv_iconst (v := 0) hx hb dX7_bits_0 (by decide) ?_
  refine lv_istore_n (lv' := [(1, .int (0 : Int32)), (0, .int p0)]) hx hb dX7_bits_1 rfl hl (by decide) rfl (fun ls hl => ?_)
  refine lv_iload_n hx hb dX7_bits_2 rfl (lv_at hl 1 rfl) ?_
  refine lv_istore_n (lv' := [(2, .int p0), (1, .int (0 : Int32)), (0, .int p0)]) hx hb dX7_bits_3 rfl hl (by decide) rfl (fun ls hl => ?_)
  exact w_X7_bits_4 g q X σ FU (0 : Int32) p0 hD _ _ _ I (lv_sub hl [1, 0] rfl)

/-! YearDeckModel.share(JJI)J -/
def D_X7_share_31 (σ : St) (v0 : Int64) (v2 : Int64) (v4 : Int32) (v5 : Int64) : Option Int64 := if v4 = 0 then gd (nzl v5) (some (v0 / v5)) else gd (nzl v5) (some (v2 / v5))
set_option maxRecDepth 100000 in
set_option maxHeartbeats 4000000 in
theorem w_X7_share_31 {p : Program} {l : Launch} {e : Env} {s : State} {m : MethodId} {args : Array Value} {below : List Frame} {meth : Method} {c : Code} (g : Gh) (q : Nat → Nat) (X : MX p s m args meth c cX7_share 11 (some .long) RX7) {rr : Int64} (σ : St)  (v0 : Int64) (v2 : Int64) (v4 : Int32) (v5 : Int64) (hD : D_X7_share_31 σ v0 v2 v4 v5 = some rr) (H : Heap) (locs : List Loc) (ls : Array Slot) (I : IM g q s σ H locs) (hl : lv_has ls 11 [(0, .long v0), (2, .long v2), (4, .int v4), (5, .long v5)]) : W p l e (rmD 0) s m args below meth c H locs 0 0 (MQ below (QL g (eM g q) q 22 rr σ s.heap.size) args s 0 0 (AQ q 22 s.heap.size)) (F0 m 31 ls []) := by
  have hx := X.1
  have hb := X.2.1
  unfold D_X7_share_31 at hD
  refine lv_iload hx hb dX7_share_31 (lv_at hl 2 rfl) ?_
  refine lv_if_ne (tgt := 40) hx hb dX7_share_33 (by decide) (fun hc19 => ?_) (fun hc19 => ?_)
  · have hD := ite_n hc19 hD
    refine lv_lload_n hx hb dX7_share_40 rfl (lv_at hl 1 rfl) ?_
    refine lv_lload hx hb dX7_share_41 (lv_at hl 3 rfl) ?_
    obtain ⟨hg22, hD⟩ := gd_s hD
    refine lv_ldiv hx hb dX7_share_43 (nzl_n hg22) ?_
    exact r_lret X I hD dX7_share_44
  · have hD := ite_p hc19 hD
    refine lv_lload_n hx hb dX7_share_36 rfl (lv_at hl 0 rfl) ?_
    refine lv_goto (tgt := 41) hx hb dX7_share_37 (by decide) ?_
    refine lv_lload hx hb dX7_share_41 (lv_at hl 3 rfl) ?_
    obtain ⟨hg27, hD⟩ := gd_s hD
    refine lv_ldiv hx hb dX7_share_43 (nzl_n hg27) ?_
    exact r_lret X I hD dX7_share_44
def D_X7_share_6b (σ : St) (rc6 : Int64 → Int64 → Option Int64) (v0 : Int64) (v2 : Int64) (v4 : Int32) (v5 : Int64) (v7 : Int64) : Option Int64 := if (lg_cmp v7 (0 : Int64)) = 0 then D_X7_share_31 σ v0 v2 v4 v5 else gd (nzl v7) (rc6 v7 (v5 - v5 / v7 * v7))
set_option maxRecDepth 100000 in
set_option maxHeartbeats 4000000 in
theorem w_X7_share_6b {p : Program} {l : Launch} {e : Env} {s : State} {m : MethodId} {args : Array Value} {below : List Frame} {meth : Method} {c : Code} (g : Gh) (q : Nat → Nat) (X : MX p s m args meth c cX7_share 11 (some .long) RX7) {rr : Int64} (σ : St)  (v0 : Int64) (v2 : Int64) (v4 : Int32) (v5 : Int64) (v7 : Int64) (rc6 : Int64 → Int64 → Option Int64) (hrc6 : ∀ (v5' : Int64) (v7' : Int64), rc6 v5' v7' = some rr → ∀ (H : Heap) (locs : List Loc) (ls : Array Slot), IM g q s σ H locs → lv_has ls 11 [(0, .long v0), (2, .long v2), (4, .int v4), (5, .long v5'), (7, .long v7')] → W p l e (rmD 0) s m args below meth c H locs 0 0 (MQ below (QL g (eM g q) q 22 rr σ s.heap.size) args s 0 0 (AQ q 22 s.heap.size)) (F0 m 6 ls [])) (hD : D_X7_share_6b σ rc6 v0 v2 v4 v5 v7 = some rr) (H : Heap) (locs : List Loc) (ls : Array Slot) (I : IM g q s σ H locs) (hl : lv_has ls 11 [(0, .long v0), (2, .long v2), (4, .int v4), (5, .long v5), (7, .long v7)]) : W p l e (rmD 0) s m args below meth c H locs 0 0 (MQ below (QL g (eM g q) q 22 rr σ s.heap.size) args s 0 0 (AQ q 22 s.heap.size)) (F0 m 6 ls []) := by
  have hx := X.1
  have hb := X.2.1
  unfold D_X7_share_6b at hD
  refine lv_lload hx hb dX7_share_6 (lv_at hl 4 rfl) ?_
  refine lv_lconst (v := 0) hx hb dX7_share_8 rfl ?_
  refine W.lcmp hx hb dX7_share_9 ?_
  refine lv_if_eq (tgt := 31) hx hb dX7_share_10 (by decide) (fun hc8 => ?_) (fun hc8 => ?_)
  · have hD := ite_p hc8 hD
    exact w_X7_share_31 g q X σ v0 v2 v4 v5 hD _ _ _ I (lv_sub hl [0, 1, 2, 3] rfl)
  · have hD := ite_n hc8 hD
    refine lv_lload hx hb dX7_share_13 (lv_at hl 3 rfl) ?_
    refine lv_lload hx hb dX7_share_15 (lv_at hl 4 rfl) ?_
    obtain ⟨hg11, hD⟩ := gd_s hD
    refine lv_lrem hx hb dX7_share_17 (nzl_n hg11) ?_
    refine lv_lstore (lv' := [(9, .long (v5 - v5 / v7 * v7)), (0, .long v0), (2, .long v2), (4, .int v4), (5, .long v5), (7, .long v7)]) hx hb dX7_share_18 hl (by decide) rfl (fun ls hl => ?_)
    refine lv_lload hx hb dX7_share_20 (lv_at hl 5 rfl) ?_
    refine lv_lstore (lv' := [(5, .long v7), (9, .long (v5 - v5 / v7 * v7)), (0, .long v0), (2, .long v2), (4, .int v4), (7, .long v7)]) hx hb dX7_share_22 hl (by decide) rfl (fun ls hl => ?_)
    refine lv_lload hx hb dX7_share_24 (lv_at hl 1 rfl) ?_
    refine lv_lstore (lv' := [(7, .long (v5 - v5 / v7 * v7)), (5, .long v7), (9, .long (v5 - v5 / v7 * v7)), (0, .long v0), (2, .long v2), (4, .int v4)]) hx hb dX7_share_26 hl (by decide) rfl (fun ls hl => ?_)
    refine lv_goto (tgt := 6) hx hb dX7_share_28 (by decide) ?_
    exact hrc6 v7 (v5 - v5 / v7 * v7) hD _ _ _ I (lv_sub hl [3, 4, 5, 1, 0] rfl)
def D_X7_share_6 (σ : St) (v0 : Int64) (v2 : Int64) (v4 : Int32) : Nat → Int64 → Int64 → Option Int64
  | 0 => fun _ _ => none
  | n + 1 => fun v5 v7 => D_X7_share_6b σ (D_X7_share_6 σ v0 v2 v4 n) v0 v2 v4 v5 v7
set_option maxRecDepth 100000 in
set_option maxHeartbeats 4000000 in
theorem w_X7_share_6 {p : Program} {l : Launch} {e : Env} {s : State} {m : MethodId} {args : Array Value} {below : List Frame} {meth : Method} {c : Code} (g : Gh) (q : Nat → Nat) (X : MX p s m args meth c cX7_share 11 (some .long) RX7) {rr : Int64} (σ : St)  (v0 : Int64) (v2 : Int64) (v4 : Int32) : ∀ (n : Nat) (v5 : Int64) (v7 : Int64), D_X7_share_6 σ v0 v2 v4 n v5 v7 = some rr → ∀ (H : Heap) (locs : List Loc) (ls : Array Slot), IM g q s σ H locs → lv_has ls 11 [(0, .long v0), (2, .long v2), (4, .int v4), (5, .long v5), (7, .long v7)] → W p l e (rmD 0) s m args below meth c H locs 0 0 (MQ below (QL g (eM g q) q 22 rr σ s.heap.size) args s 0 0 (AQ q 22 s.heap.size)) (F0 m 6 ls []) := by
  intro n
  induction n with
  | zero =>
    intro v5 v7 hD H locs ls I hl
    cases hD
  | succ n ih =>
    intro v5 v7 hD H locs ls I hl
    exact w_X7_share_6b g q X σ v0 v2 v4 v5 v7 _ ih hD H locs ls I hl
def D_X7_share (σ : St) (p0 : Int64) (p2 : Int64) (p4 : Int32) : Option Int64 := D_X7_share_6 σ p0 p2 p4 FU p0 p2
set_option maxRecDepth 100000 in
set_option maxHeartbeats 4000000 in
theorem c_X7_share (l : Launch) (g : Gh) (q : Nat → Nat) (sz : Nat) (σ : St) (p0 : Int64) (p2 : Int64) (p4 : Int32) {rr : Int64} (hD : D_X7_share σ p0 p2 p4 = some rr) : Met l yX7_share (wU yX7_share cX7_share 11 (some .long)) (rmD 0) (PQ g (eM g q) q 22 σ sz [.long p0, .long p2, .int p4]) (QL g (eM g q) q 22 rr σ sz) 0 0 (AQ q 22 sz) := by
  refine met_of (Qc := QL g (eM g q) q 22 rr σ) (by decide) (Nat.le_of_ble_eq_true rfl) ?_
  intro p e s m below meth c ls X I hl
  have hx := X.1
  have hb := X.2.1
  have hl : lv_has ls 11 [(0, .long p0), (2, .long p2), (4, .int p4)] := hl
  unfold D_X7_share at hD
  refine lv_lload_n hx hb dX7_share_0 rfl (lv_at hl 0 rfl) ?_
  refine lv_lstore (lv' := [(5, .long p0), (0, .long p0), (2, .long p2), (4, .int p4)]) hx hb dX7_share_1 hl (by decide) rfl (fun ls hl => ?_)
  refine lv_lload_n hx hb dX7_share_3 rfl (lv_at hl 2 rfl) ?_
  refine lv_lstore (lv' := [(7, .long p2), (5, .long p0), (0, .long p0), (2, .long p2), (4, .int p4)]) hx hb dX7_share_4 hl (by decide) rfl (fun ls hl => ?_)
  exact w_X7_share_6 g q X σ p0 p2 p4 FU p0 p2 hD _ _ _ I (lv_sub hl [2, 3, 4, 1, 0] rfl)

/-! YearDeckModel.refused(I)I -/
def D_X7_refused (σ : St) (p1 : Int32) : Option (Int32 × St) := some (p1, up2 σ 0 0 (0 : Int32))
set_option maxRecDepth 100000 in
set_option maxHeartbeats 4000000 in
theorem c_X7_refused (l : Launch) (g : Gh) (q : Nat → Nat) (sz : Nat) (σ : St) (p1 : Int32) {rr : (Int32 × St)} (hD : D_X7_refused σ p1 = some rr) : Met l yX7_refused (wU yX7_refused cX7_refused 2 (some .int)) (rmD 0) (PQ g (eM g q) q 22 σ sz [.ref (q 0), .int p1]) (QI g (eM g q) q 22 rr.1 rr.2 sz) 0 0 (AQ q 22 sz) := by
  refine met_of (Qc := QI g (eM g q) q 22 rr.1 rr.2) (by decide) (Nat.le_of_ble_eq_true rfl) ?_
  intro p e s m below meth c ls X I hl
  have hx := X.1
  have hb := X.2.1
  have hl : lv_has ls 2 [(0, .ref (q 0)), (1, .int p1)] := hl
  unfold D_X7_refused at hD
  refine lv_aload_n hx hb dX7_refused_0 rfl (lv_at hl 0 rfl) ?_
  refine lv_iconst (v := 0) hx hb dX7_refused_1 (by decide) ?_
  refine p_Model_fault X I fl_X7_76 dX7_refused_2 (fun H locs I => ?_)
  refine lv_iload_n hx hb dX7_refused_5 rfl (lv_at hl 1 rfl) ?_
  exact r_iret2 X I hD dX7_refused_6

/-! YearDeckModel.failed(I)I -/
def D_X7_failed (σ : St) (p1 : Int32) : Option (Int32 × St) := some ((-10 : Int32) - p1, up2 σ 0 0 p1)
set_option maxRecDepth 100000 in
set_option maxHeartbeats 4000000 in
theorem c_X7_failed (l : Launch) (g : Gh) (q : Nat → Nat) (sz : Nat) (σ : St) (p1 : Int32) {rr : (Int32 × St)} (hD : D_X7_failed σ p1 = some rr) : Met l yX7_failed (wU yX7_failed cX7_failed 2 (some .int)) (rmD 0) (PQ g (eM g q) q 22 σ sz [.ref (q 0), .int p1]) (QI g (eM g q) q 22 rr.1 rr.2 sz) 0 0 (AQ q 22 sz) := by
  refine met_of (Qc := QI g (eM g q) q 22 rr.1 rr.2) (by decide) (Nat.le_of_ble_eq_true rfl) ?_
  intro p e s m below meth c ls X I hl
  have hx := X.1
  have hb := X.2.1
  have hl : lv_has ls 2 [(0, .ref (q 0)), (1, .int p1)] := hl
  unfold D_X7_failed at hD
  refine lv_aload_n hx hb dX7_failed_0 rfl (lv_at hl 0 rfl) ?_
  refine lv_iload_n hx hb dX7_failed_1 rfl (lv_at hl 1 rfl) ?_
  refine p_Model_fault X I fl_X7_76 dX7_failed_2 (fun H locs I => ?_)
  refine lv_bipush (v := -10) hx hb dX7_failed_5 (by decide) ?_
  refine lv_iload_n hx hb dX7_failed_7 rfl (lv_at hl 1 rfl) ?_
  refine lv_isub hx hb dX7_failed_8 ?_
  exact r_iret2 X I hD dX7_failed_9

/-! YearDeckModel.failedLong(I)J -/
def D_X7_failedLong (σ : St) (p1 : Int32) : Option (Int64 × St) := (D_X7_lost (up2 σ 0 0 p1)).bind fun y4 => some (y4, up2 σ 0 0 p1)
set_option maxRecDepth 100000 in
set_option maxHeartbeats 4000000 in
theorem c_X7_failedLong (l : Launch) (g : Gh) (q : Nat → Nat) (sz : Nat) (σ : St) (p1 : Int32) {rr : (Int64 × St)} (hD : D_X7_failedLong σ p1 = some rr) : Met l yX7_failedLong (wU yX7_failedLong cX7_failedLong 2 (some .long)) (rmD 1) (PQ g (eM g q) q 22 σ sz [.ref (q 0), .int p1]) (QL g (eM g q) q 22 rr.1 rr.2 sz) 0 0 (AQ q 22 sz) := by
  refine met_of (Qc := QL g (eM g q) q 22 rr.1 rr.2) (by decide) (Nat.le_of_ble_eq_true rfl) ?_
  intro p e s m below meth c ls X I hl
  have hx := X.1
  have hb := X.2.1
  have hl : lv_has ls 2 [(0, .ref (q 0)), (1, .int p1)] := hl
  unfold D_X7_failedLong at hD
  refine lv_aload_n hx hb dX7_failedLong_0 rfl (lv_at hl 0 rfl) ?_
  refine lv_iload_n hx hb dX7_failedLong_1 rfl (lv_at hl 1 rfl) ?_
  refine p_Model_fault X I fl_X7_76 dX7_failedLong_2 (fun H locs I => ?_)
  obtain ⟨y4, hy4, hD⟩ := bd_s hD
  refine r_calll (r_runS (As := []) (rest := []) X I (c_X7_lost l g q _ (up2 σ 0 0 p1) hy4) ks_X7_lost ml_X7_80 ⟨Nat.le_of_ble_eq_true rfl, Nat.le_of_ble_eq_true rfl⟩ ⟨Nat.zero_le _, Nat.zero_le _⟩ rfl rfl hl.1 (Nat.le_of_ble_eq_true rfl) dX7_failedLong_5) I (fun H locs I => ?_)
  exact r_lret2 X I hD dX7_failedLong_8

/-! YearDeckModel.noSection(I)Z -/
def D_X7_noSection (σ : St) (p1 : Int32) : Option Int32 := (D_X7_in σ p1.toInt64 (0 : Int64) (((σ 0 2).toInt64) - (1 : Int64))).bind fun y9 => if y9 = 0 then some (1 : Int32) else some (0 : Int32)
set_option maxRecDepth 100000 in
set_option maxHeartbeats 4000000 in
theorem c_X7_noSection (l : Launch) (g : Gh) (q : Nat → Nat) (sz : Nat) (σ : St) (p1 : Int32) {rr : Int32} (hD : D_X7_noSection σ p1 = some rr) : Met l yX7_noSection (wU yX7_noSection cX7_noSection 2 (some .boolean)) (rmD 1) (PQ g (eM g q) q 22 σ sz [.ref (q 0), .int p1]) (QI g (eM g q) q 22 rr σ sz) 0 0 (AQ q 22 sz) := by
  refine met_of (Qc := QI g (eM g q) q 22 rr σ) (by decide) (Nat.le_of_ble_eq_true rfl) ?_
  intro p e s m below meth c ls X I hl
  have hx := X.1
  have hb := X.2.1
  have hl : lv_has ls 2 [(0, .ref (q 0)), (1, .int p1)] := hl
  unfold D_X7_noSection at hD
  refine lv_iload_n hx hb dX7_noSection_0 rfl (lv_at hl 1 rfl) ?_
  refine lv_i2l hx hb dX7_noSection_1 rfl ?_
  refine lv_lconst (v := 0) hx hb dX7_noSection_2 rfl ?_
  refine lv_aload_n hx hb dX7_noSection_3 rfl (lv_at hl 0 rfl) ?_
  refine g_Model_sections X I fl_X7_84 dX7_noSection_4 ?_
  refine lv_i2l hx hb dX7_noSection_7 rfl ?_
  refine lv_lconst (v := 1) hx hb dX7_noSection_8 rfl ?_
  refine lv_lsub hx hb dX7_noSection_9 ?_
  obtain ⟨y9, hy9, hD⟩ := bd_s hD
  refine r_calli (r_runS (As := [.long p1.toInt64, .long (0 : Int64), .long (((σ 0 2).toInt64) - (1 : Int64))]) (rest := []) X I (c_X7_in l g q _ σ p1.toInt64 (0 : Int64) (((σ 0 2).toInt64) - (1 : Int64)) hy9) ks_X7_in ml_X7_87 ⟨Nat.le_of_ble_eq_true rfl, Nat.le_of_ble_eq_true rfl⟩ ⟨Nat.zero_le _, Nat.zero_le _⟩ rfl rfl hl.1 (Nat.le_of_ble_eq_true rfl) dX7_noSection_10) I (fun H locs I => ?_)
  refine lv_if_ne (tgt := 20) hx hb dX7_noSection_13 (by decide) (fun hc10 => ?_) (fun hc10 => ?_)
  · have hD := ite_n hc10 hD
    refine lv_iconst (v := 0) hx hb dX7_noSection_20 (by decide) ?_
    exact r_zret X I hD rfl dX7_noSection_21
  · have hD := ite_p hc10 hD
    refine lv_iconst (v := 1) hx hb dX7_noSection_16 (by decide) ?_
    refine lv_goto (tgt := 21) hx hb dX7_noSection_17 (by decide) ?_
    exact r_zret X I hD rfl dX7_noSection_21

/-! YearDeckModel.noRider(I)Z -/
def D_X7_noRider (σ : St) (p1 : Int32) : Option Int32 := (D_X7_in σ p1.toInt64 (0 : Int64) (((σ 0 4).toInt64) - (1 : Int64))).bind fun y9 => if y9 = 0 then some (1 : Int32) else some (0 : Int32)
set_option maxRecDepth 100000 in
set_option maxHeartbeats 4000000 in
theorem c_X7_noRider (l : Launch) (g : Gh) (q : Nat → Nat) (sz : Nat) (σ : St) (p1 : Int32) {rr : Int32} (hD : D_X7_noRider σ p1 = some rr) : Met l yX7_noRider (wU yX7_noRider cX7_noRider 2 (some .boolean)) (rmD 1) (PQ g (eM g q) q 22 σ sz [.ref (q 0), .int p1]) (QI g (eM g q) q 22 rr σ sz) 0 0 (AQ q 22 sz) := by
  refine met_of (Qc := QI g (eM g q) q 22 rr σ) (by decide) (Nat.le_of_ble_eq_true rfl) ?_
  intro p e s m below meth c ls X I hl
  have hx := X.1
  have hb := X.2.1
  have hl : lv_has ls 2 [(0, .ref (q 0)), (1, .int p1)] := hl
  unfold D_X7_noRider at hD
  refine lv_iload_n hx hb dX7_noRider_0 rfl (lv_at hl 1 rfl) ?_
  refine lv_i2l hx hb dX7_noRider_1 rfl ?_
  refine lv_lconst (v := 0) hx hb dX7_noRider_2 rfl ?_
  refine lv_aload_n hx hb dX7_noRider_3 rfl (lv_at hl 0 rfl) ?_
  refine g_Model_riders X I fl_X7_91 dX7_noRider_4 ?_
  refine lv_i2l hx hb dX7_noRider_7 rfl ?_
  refine lv_lconst (v := 1) hx hb dX7_noRider_8 rfl ?_
  refine lv_lsub hx hb dX7_noRider_9 ?_
  obtain ⟨y9, hy9, hD⟩ := bd_s hD
  refine r_calli (r_runS (As := [.long p1.toInt64, .long (0 : Int64), .long (((σ 0 4).toInt64) - (1 : Int64))]) (rest := []) X I (c_X7_in l g q _ σ p1.toInt64 (0 : Int64) (((σ 0 4).toInt64) - (1 : Int64)) hy9) ks_X7_in ml_X7_87 ⟨Nat.le_of_ble_eq_true rfl, Nat.le_of_ble_eq_true rfl⟩ ⟨Nat.zero_le _, Nat.zero_le _⟩ rfl rfl hl.1 (Nat.le_of_ble_eq_true rfl) dX7_noRider_10) I (fun H locs I => ?_)
  refine lv_if_ne (tgt := 20) hx hb dX7_noRider_13 (by decide) (fun hc10 => ?_) (fun hc10 => ?_)
  · have hD := ite_n hc10 hD
    refine lv_iconst (v := 0) hx hb dX7_noRider_20 (by decide) ?_
    exact r_zret X I hD rfl dX7_noRider_21
  · have hD := ite_p hc10 hD
    refine lv_iconst (v := 1) hx hb dX7_noRider_16 (by decide) ?_
    refine lv_goto (tgt := 21) hx hb dX7_noRider_17 (by decide) ?_
    exact r_zret X I hD rfl dX7_noRider_21

/-! YearDeckModel.allOf(I)I -/
def D_X7_allOf (σ : St) (p1 : Int32) : Option Int32 := gd (inb p1 4) (gd (inb p1 4) (some (((1 : Int32) <<< ((σ 4 p1.toNatClampNeg) &&& 31)) - ((1 : Int32) <<< ((σ 3 p1.toNatClampNeg) &&& 31)))))
set_option maxRecDepth 100000 in
set_option maxHeartbeats 4000000 in
theorem c_X7_allOf (l : Launch) (g : Gh) (q : Nat → Nat) (sz : Nat) (σ : St) (p1 : Int32) {rr : Int32} (hD : D_X7_allOf σ p1 = some rr) : Met l yX7_allOf (wU yX7_allOf cX7_allOf 2 (some .int)) (rmD 0) (PQ g (eM g q) q 22 σ sz [.ref (q 0), .int p1]) (QI g (eM g q) q 22 rr σ sz) 0 0 (AQ q 22 sz) := by
  refine met_of (Qc := QI g (eM g q) q 22 rr σ) (by decide) (Nat.le_of_ble_eq_true rfl) ?_
  intro p e s m below meth c ls X I hl
  have hx := X.1
  have hb := X.2.1
  have hl : lv_has ls 2 [(0, .ref (q 0)), (1, .int p1)] := hl
  unfold D_X7_allOf at hD
  refine lv_iconst (v := 1) hx hb dX7_allOf_0 (by decide) ?_
  refine lv_aload_n hx hb dX7_allOf_1 rfl (lv_at hl 0 rfl) ?_
  refine g_Model_offOf X I fl_X7_19 dX7_allOf_2 ?_
  refine lv_iload_n hx hb dX7_allOf_5 rfl (lv_at hl 1 rfl) ?_
  obtain ⟨hg5, hD⟩ := gd_s hD
  refine r_iald X I (by decide) ((eMa_4 g q) _) hg5 dX7_allOf_6 ?_
  refine lv_ishl hx hb dX7_allOf_7 ?_
  refine lv_iconst (v := 1) hx hb dX7_allOf_8 (by decide) ?_
  refine lv_aload_n hx hb dX7_allOf_9 rfl (lv_at hl 0 rfl) ?_
  refine g_Model_onOf X I fl_X7_16 dX7_allOf_10 ?_
  refine lv_iload_n hx hb dX7_allOf_13 rfl (lv_at hl 1 rfl) ?_
  obtain ⟨hg11, hD⟩ := gd_s hD
  refine r_iald X I (by decide) ((eMa_3 g q) _) hg11 dX7_allOf_14 ?_
  refine lv_ishl hx hb dX7_allOf_15 ?_
  refine lv_isub hx hb dX7_allOf_16 ?_
  exact r_iret X I hD dX7_allOf_17

/-! YearDeckModel.noSetOf(II)Z -/
def D_X7_noSetOf (σ : St) (p1 : Int32) (p2 : Int32) : Option Int32 := if p2 < 0 then some (1 : Int32) else (D_X7_allOf σ p1).bind fun y9 => if (p2 &&& (y9 ^^^ (-1 : Int32))) = 0 then some (0 : Int32) else some (1 : Int32)
set_option maxRecDepth 100000 in
set_option maxHeartbeats 4000000 in
theorem c_X7_noSetOf (l : Launch) (g : Gh) (q : Nat → Nat) (sz : Nat) (σ : St) (p1 : Int32) (p2 : Int32) {rr : Int32} (hD : D_X7_noSetOf σ p1 p2 = some rr) : Met l yX7_noSetOf (wU yX7_noSetOf cX7_noSetOf 3 (some .boolean)) (rmD 1) (PQ g (eM g q) q 22 σ sz [.ref (q 0), .int p1, .int p2]) (QI g (eM g q) q 22 rr σ sz) 0 0 (AQ q 22 sz) := by
  refine met_of (Qc := QI g (eM g q) q 22 rr σ) (by decide) (Nat.le_of_ble_eq_true rfl) ?_
  intro p e s m below meth c ls X I hl
  have hx := X.1
  have hb := X.2.1
  have hl : lv_has ls 3 [(0, .ref (q 0)), (1, .int p1), (2, .int p2)] := hl
  unfold D_X7_noSetOf at hD
  refine lv_iload_n hx hb dX7_noSetOf_0 rfl (lv_at hl 2 rfl) ?_
  refine lv_if_lt (tgt := 16) hx hb dX7_noSetOf_1 (by decide) (fun hc2 => ?_) (fun hc2 => ?_)
  · have hD := ite_p hc2 hD
    refine lv_iconst (v := 1) hx hb dX7_noSetOf_16 (by decide) ?_
    refine lv_goto (tgt := 21) hx hb dX7_noSetOf_17 (by decide) ?_
    exact r_zret X I hD rfl dX7_noSetOf_21
  · have hD := ite_n hc2 hD
    refine lv_iload_n hx hb dX7_noSetOf_4 rfl (lv_at hl 2 rfl) ?_
    refine lv_aload_n hx hb dX7_noSetOf_5 rfl (lv_at hl 0 rfl) ?_
    refine lv_iload_n hx hb dX7_noSetOf_6 rfl (lv_at hl 1 rfl) ?_
    obtain ⟨y9, hy9, hD⟩ := bd_s hD
    refine r_calli (r_runV (As := [.int p1]) (rest := [.int p2]) X I (c_X7_allOf l g q _ σ p1 hy9) kv_X7_allOf ml_X7_94 rfl (by decide) (eM_Model g q _) ⟨Nat.le_of_ble_eq_true rfl, Nat.le_of_ble_eq_true rfl⟩ ⟨Nat.zero_le _, Nat.zero_le _⟩ rfl rfl hl.1 (Nat.le_of_ble_eq_true rfl) dX7_noSetOf_7) I (fun H locs I => ?_)
    refine lv_iconst (v := -1) hx hb dX7_noSetOf_10 (by decide) ?_
    refine lv_ixor hx hb dX7_noSetOf_11 ?_
    refine lv_iand hx hb dX7_noSetOf_12 ?_
    refine lv_if_eq (tgt := 20) hx hb dX7_noSetOf_13 (by decide) (fun hc13 => ?_) (fun hc13 => ?_)
    · have hD := ite_p hc13 hD
      refine lv_iconst (v := 0) hx hb dX7_noSetOf_20 (by decide) ?_
      exact r_zret X I hD rfl dX7_noSetOf_21
    · have hD := ite_n hc13 hD
      refine lv_iconst (v := 1) hx hb dX7_noSetOf_16 (by decide) ?_
      refine lv_goto (tgt := 21) hx hb dX7_noSetOf_17 (by decide) ?_
      exact r_zret X I hD rfl dX7_noSetOf_21

/-! YearDeckModel.codeAt(II)I -/
def D_X7_codeAt (σ : St) (p1 : Int32) (p2 : Int32) : Option Int32 := if p2 ≤ (σ 0 10) then some (-9 : Int32) else gd (inb (p1 + (σ 0 10)) 240) (some (σ 20 (p1 + (σ 0 10)).toNatClampNeg))
set_option maxRecDepth 100000 in
set_option maxHeartbeats 4000000 in
theorem c_X7_codeAt (l : Launch) (g : Gh) (q : Nat → Nat) (sz : Nat) (σ : St) (p1 : Int32) (p2 : Int32) {rr : Int32} (hD : D_X7_codeAt σ p1 p2 = some rr) : Met l yX7_codeAt (wU yX7_codeAt cX7_codeAt 3 (some .int)) (rmD 0) (PQ g (eM g q) q 22 σ sz [.ref (q 0), .int p1, .int p2]) (QI g (eM g q) q 22 rr σ sz) 0 0 (AQ q 22 sz) := by
  refine met_of (Qc := QI g (eM g q) q 22 rr σ) (by decide) (Nat.le_of_ble_eq_true rfl) ?_
  intro p e s m below meth c ls X I hl
  have hx := X.1
  have hb := X.2.1
  have hl : lv_has ls 3 [(0, .ref (q 0)), (1, .int p1), (2, .int p2)] := hl
  unfold D_X7_codeAt at hD
  refine lv_aload_n hx hb dX7_codeAt_0 rfl (lv_at hl 0 rfl) ?_
  refine g_Model_readAt X I fl_X7_98 dX7_codeAt_1 ?_
  refine lv_iload_n hx hb dX7_codeAt_4 rfl (lv_at hl 2 rfl) ?_
  refine lv_icmp_ge (tgt := 22) hx hb dX7_codeAt_5 (by decide) (fun hc4 => ?_) (fun hc4 => ?_)
  · have hD := ite_p hc4 hD
    refine lv_bipush (v := -9) hx hb dX7_codeAt_22 (by decide) ?_
    exact r_iret X I hD dX7_codeAt_24
  · have hD := ite_n hc4 hD
    refine lv_aload_n hx hb dX7_codeAt_8 rfl (lv_at hl 0 rfl) ?_
    refine g_Model_sheet X I fl_X7_68 dX7_codeAt_9 ?_
    refine lv_iload_n hx hb dX7_codeAt_12 rfl (lv_at hl 1 rfl) ?_
    refine lv_aload_n hx hb dX7_codeAt_13 rfl (lv_at hl 0 rfl) ?_
    refine g_Model_readAt X I fl_X7_98 dX7_codeAt_14 ?_
    refine lv_iadd hx hb dX7_codeAt_17 ?_
    obtain ⟨hg13, hD⟩ := gd_s hD
    refine r_iald X I (by decide) ((eMa_20 g q) _) hg13 dX7_codeAt_18 ?_
    refine lv_goto (tgt := 24) hx hb dX7_codeAt_19 (by decide) ?_
    exact r_iret X I hD dX7_codeAt_24

/-! YearDeckModel.figure(IIII)I -/
def D_X7_figure_39 (σ : St) (v5 : Int32) (v6 : Int32) (t0 : Int32) (t1 : Int32) : Option (Int32 × St) := if v6 = 0 then some ((-9 : Int32), up2 σ 0 10 (t1 + t0)) else some (v5, up2 σ 0 10 (t1 + t0))
set_option maxRecDepth 100000 in
set_option maxHeartbeats 4000000 in
theorem w_X7_figure_39 {p : Program} {l : Launch} {e : Env} {s : State} {m : MethodId} {args : Array Value} {below : List Frame} {meth : Method} {c : Code} (g : Gh) (q : Nat → Nat) (X : MX p s m args meth c cX7_figure 7 (some .int) RX7) {rr : (Int32 × St)} (σ : St)  (v5 : Int32) (v6 : Int32) (t0 : Int32) (t1 : Int32) (hD : D_X7_figure_39 σ v5 v6 t0 t1 = some rr) (H : Heap) (locs : List Loc) (ls : Array Slot) (I : IM g q s σ H locs) (hl : lv_has ls 7 [(5, .int v5), (6, .int v6)]) : W p l e (rmD 1) s m args below meth c H locs 0 0 (MQ below (QI g (eM g q) q 22 rr.1 rr.2 s.heap.size) args s 0 0 (AQ q 22 s.heap.size)) (F0 m 39 ls [.int t0, .int t1, .ref (q 0)]) := by
  have hx := X.1
  have hb := X.2.1
  unfold D_X7_figure_39 at hD
  refine lv_iadd hx hb dX7_figure_39 ?_
  refine p_Model_readAt X I fl_X7_98 dX7_figure_40 (fun H locs I => ?_)
  refine lv_iload hx hb dX7_figure_43 (lv_at hl 1 rfl) ?_
  refine lv_if_eq (tgt := 53) hx hb dX7_figure_45 (by decide) (fun hc27 => ?_) (fun hc27 => ?_)
  · have hD := ite_p hc27 hD
    refine lv_bipush (v := -9) hx hb dX7_figure_53 (by decide) ?_
    exact r_iret2 X I hD dX7_figure_55
  · have hD := ite_n hc27 hD
    refine lv_iload hx hb dX7_figure_48 (lv_at hl 0 rfl) ?_
    refine lv_goto (tgt := 55) hx hb dX7_figure_50 (by decide) ?_
    exact r_iret2 X I hD dX7_figure_55
def D_X7_figure (σ : St) (p1 : Int32) (p2 : Int32) (p3 : Int32) (p4 : Int32) : Option (Int32 × St) := (D_X7_codeAt σ p1 p2).bind fun y4 => (D_X7_in σ ((y4 - (48 : Int32)).toInt64) p3.toInt64 p4.toInt64).bind fun y14 => if y14 = 0 then D_X7_figure_39 σ (y4 - (48 : Int32)) y14 (0 : Int32) (σ 0 10) else D_X7_figure_39 σ (y4 - (48 : Int32)) y14 (1 : Int32) (σ 0 10)
set_option maxRecDepth 100000 in
set_option maxHeartbeats 4000000 in
theorem c_X7_figure (l : Launch) (g : Gh) (q : Nat → Nat) (sz : Nat) (σ : St) (p1 : Int32) (p2 : Int32) (p3 : Int32) (p4 : Int32) {rr : (Int32 × St)} (hD : D_X7_figure σ p1 p2 p3 p4 = some rr) : Met l yX7_figure (wU yX7_figure cX7_figure 7 (some .int)) (rmD 1) (PQ g (eM g q) q 22 σ sz [.ref (q 0), .int p1, .int p2, .int p3, .int p4]) (QI g (eM g q) q 22 rr.1 rr.2 sz) 0 0 (AQ q 22 sz) := by
  refine met_of (Qc := QI g (eM g q) q 22 rr.1 rr.2) (by decide) (Nat.le_of_ble_eq_true rfl) ?_
  intro p e s m below meth c ls X I hl
  have hx := X.1
  have hb := X.2.1
  have hl : lv_has ls 7 [(0, .ref (q 0)), (1, .int p1), (2, .int p2), (3, .int p3), (4, .int p4)] := hl
  unfold D_X7_figure at hD
  refine lv_aload_n hx hb dX7_figure_0 rfl (lv_at hl 0 rfl) ?_
  refine lv_iload_n hx hb dX7_figure_1 rfl (lv_at hl 1 rfl) ?_
  refine lv_iload_n hx hb dX7_figure_2 rfl (lv_at hl 2 rfl) ?_
  obtain ⟨y4, hy4, hD⟩ := bd_s hD
  refine r_calli (r_runV (As := [.int p1, .int p2]) (rest := []) X I (c_X7_codeAt l g q _ σ p1 p2 hy4) kv_X7_codeAt ml_X7_101 rfl (by decide) (eM_Model g q _) ⟨Nat.le_of_ble_eq_true rfl, Nat.le_of_ble_eq_true rfl⟩ ⟨Nat.zero_le _, Nat.zero_le _⟩ rfl rfl hl.1 (Nat.le_of_ble_eq_true rfl) dX7_figure_3) I (fun H locs I => ?_)
  refine lv_bipush (v := 48) hx hb dX7_figure_6 (by decide) ?_
  refine lv_isub hx hb dX7_figure_8 ?_
  refine lv_istore (lv' := [(5, .int (y4 - (48 : Int32))), (0, .ref (q 0)), (1, .int p1), (2, .int p2), (3, .int p3), (4, .int p4)]) hx hb dX7_figure_9 hl (by decide) rfl (fun ls hl => ?_)
  refine lv_iload hx hb dX7_figure_11 (lv_at hl 0 rfl) ?_
  refine lv_i2l hx hb dX7_figure_13 rfl ?_
  refine lv_iload_n hx hb dX7_figure_14 rfl (lv_at hl 4 rfl) ?_
  refine lv_i2l hx hb dX7_figure_15 rfl ?_
  refine lv_iload hx hb dX7_figure_16 (lv_at hl 5 rfl) ?_
  refine lv_i2l hx hb dX7_figure_18 rfl ?_
  obtain ⟨y14, hy14, hD⟩ := bd_s hD
  refine r_calli (r_runS (As := [.long ((y4 - (48 : Int32)).toInt64), .long p3.toInt64, .long p4.toInt64]) (rest := []) X I (c_X7_in l g q _ σ ((y4 - (48 : Int32)).toInt64) p3.toInt64 p4.toInt64 hy14) ks_X7_in ml_X7_87 ⟨Nat.le_of_ble_eq_true rfl, Nat.le_of_ble_eq_true rfl⟩ ⟨Nat.zero_le _, Nat.zero_le _⟩ rfl rfl hl.1 (Nat.le_of_ble_eq_true rfl) dX7_figure_19) I (fun H locs I => ?_)
  refine lv_istore (lv' := [(6, .int y14), (5, .int (y4 - (48 : Int32))), (0, .ref (q 0)), (1, .int p1), (2, .int p2), (3, .int p3), (4, .int p4)]) hx hb dX7_figure_22 hl (by decide) rfl (fun ls hl => ?_)
  refine lv_aload_n hx hb dX7_figure_24 rfl (lv_at hl 2 rfl) ?_
  refine lv_dup hx hb dX7_figure_25 rfl ?_
  refine g_Model_readAt X I fl_X7_98 dX7_figure_26 ?_
  refine lv_iload hx hb dX7_figure_29 (lv_at hl 0 rfl) ?_
  refine lv_if_eq (tgt := 38) hx hb dX7_figure_31 (by decide) (fun hc20 => ?_) (fun hc20 => ?_)
  · have hD := ite_p hc20 hD
    refine lv_iconst (v := 0) hx hb dX7_figure_38 (by decide) ?_
    exact w_X7_figure_39 g q X σ (y4 - (48 : Int32)) y14 (0 : Int32) (σ 0 10) hD _ _ _ I (lv_sub hl [1, 0] rfl)
  · have hD := ite_n hc20 hD
    refine lv_iconst (v := 1) hx hb dX7_figure_34 (by decide) ?_
    refine lv_goto (tgt := 39) hx hb dX7_figure_35 (by decide) ?_
    exact w_X7_figure_39 g q X σ (y4 - (48 : Int32)) y14 (1 : Int32) (σ 0 10) hD _ _ _ I (lv_sub hl [1, 0] rfl)

/-! YearDeckModel.twoFigures(III)I -/
def D_X7_twoFigures_29 (σ : St) (v4 : Int32) (t0 : Int32) : Option (Int32 × St) := if 0 ≤ t0 then some (((10 : Int32) * v4) + t0, σ) else some ((-9 : Int32), σ)
set_option maxRecDepth 100000 in
set_option maxHeartbeats 4000000 in
theorem w_X7_twoFigures_29 {p : Program} {l : Launch} {e : Env} {s : State} {m : MethodId} {args : Array Value} {below : List Frame} {meth : Method} {c : Code} (g : Gh) (q : Nat → Nat) (X : MX p s m args meth c cX7_twoFigures 6 (some .int) RX7) {rr : (Int32 × St)} (σ : St)  (v4 : Int32) (t0 : Int32) (hD : D_X7_twoFigures_29 σ v4 t0 = some rr) (H : Heap) (locs : List Loc) (ls : Array Slot) (I : IM g q s σ H locs) (hl : lv_has ls 6 [(4, .int v4)]) : W p l e (rmD 2) s m args below meth c H locs 0 0 (MQ below (QI g (eM g q) q 22 rr.1 rr.2 s.heap.size) args s 0 0 (AQ q 22 s.heap.size)) (F0 m 29 ls [.int t0]) := by
  have hx := X.1
  have hb := X.2.1
  unfold D_X7_twoFigures_29 at hD
  refine lv_istore (lv' := [(5, .int t0), (4, .int v4)]) hx hb dX7_twoFigures_29 hl (by decide) rfl (fun ls hl => ?_)
  refine lv_iload hx hb dX7_twoFigures_31 (lv_at hl 0 rfl) ?_
  refine lv_if_ge (tgt := 41) hx hb dX7_twoFigures_33 (by decide) (fun hc20 => ?_) (fun hc20 => ?_)
  · have hD := ite_p hc20 hD
    refine lv_bipush (v := 10) hx hb dX7_twoFigures_41 (by decide) ?_
    refine lv_iload hx hb dX7_twoFigures_43 (lv_at hl 1 rfl) ?_
    refine lv_imul hx hb dX7_twoFigures_45 ?_
    refine lv_iload hx hb dX7_twoFigures_46 (lv_at hl 0 rfl) ?_
    refine lv_iadd hx hb dX7_twoFigures_48 ?_
    exact r_iret2 X I hD dX7_twoFigures_49
  · have hD := ite_n hc20 hD
    refine lv_bipush (v := -9) hx hb dX7_twoFigures_36 (by decide) ?_
    refine lv_goto (tgt := 49) hx hb dX7_twoFigures_38 (by decide) ?_
    exact r_iret2 X I hD dX7_twoFigures_49
def D_X7_twoFigures (σ : St) (p1 : Int32) (p2 : Int32) (p3 : Int32) : Option (Int32 × St) := (D_X7_figure σ p1 p2 (0 : Int32) p3).bind fun y6 => if 0 ≤ y6.1 then (D_X7_figure y6.2 p1 p2 (0 : Int32) (9 : Int32)).bind fun y15 => D_X7_twoFigures_29 y15.2 y6.1 y15.1 else D_X7_twoFigures_29 y6.2 y6.1 (-9 : Int32)
set_option maxRecDepth 100000 in
set_option maxHeartbeats 4000000 in
theorem c_X7_twoFigures (l : Launch) (g : Gh) (q : Nat → Nat) (sz : Nat) (σ : St) (p1 : Int32) (p2 : Int32) (p3 : Int32) {rr : (Int32 × St)} (hD : D_X7_twoFigures σ p1 p2 p3 = some rr) : Met l yX7_twoFigures (wU yX7_twoFigures cX7_twoFigures 6 (some .int)) (rmD 2) (PQ g (eM g q) q 22 σ sz [.ref (q 0), .int p1, .int p2, .int p3]) (QI g (eM g q) q 22 rr.1 rr.2 sz) 0 0 (AQ q 22 sz) := by
  refine met_of (Qc := QI g (eM g q) q 22 rr.1 rr.2) (by decide) (Nat.le_of_ble_eq_true rfl) ?_
  intro p e s m below meth c ls X I hl
  have hx := X.1
  have hb := X.2.1
  have hl : lv_has ls 6 [(0, .ref (q 0)), (1, .int p1), (2, .int p2), (3, .int p3)] := hl
  unfold D_X7_twoFigures at hD
  refine lv_aload_n hx hb dX7_twoFigures_0 rfl (lv_at hl 0 rfl) ?_
  refine lv_iload_n hx hb dX7_twoFigures_1 rfl (lv_at hl 1 rfl) ?_
  refine lv_iload_n hx hb dX7_twoFigures_2 rfl (lv_at hl 2 rfl) ?_
  refine lv_iconst (v := 0) hx hb dX7_twoFigures_3 (by decide) ?_
  refine lv_iload_n hx hb dX7_twoFigures_4 rfl (lv_at hl 3 rfl) ?_
  obtain ⟨y6, hy6, hD⟩ := bd_s hD
  refine r_calli (r_runV (As := [.int p1, .int p2, .int (0 : Int32), .int p3]) (rest := []) X I (c_X7_figure l g q _ σ p1 p2 (0 : Int32) p3 hy6) kv_X7_figure ml_X7_105 rfl (by decide) (eM_Model g q _) ⟨Nat.le_of_ble_eq_true rfl, Nat.le_of_ble_eq_true rfl⟩ ⟨Nat.zero_le _, Nat.zero_le _⟩ rfl rfl hl.1 (Nat.le_of_ble_eq_true rfl) dX7_twoFigures_5) I (fun H locs I => ?_)
  refine lv_istore (lv' := [(4, .int y6.1), (0, .ref (q 0)), (1, .int p1), (2, .int p2), (3, .int p3)]) hx hb dX7_twoFigures_8 hl (by decide) rfl (fun ls hl => ?_)
  refine lv_iload hx hb dX7_twoFigures_10 (lv_at hl 0 rfl) ?_
  refine lv_if_ge (tgt := 20) hx hb dX7_twoFigures_12 (by decide) (fun hc9 => ?_) (fun hc9 => ?_)
  · have hD := ite_p hc9 hD
    refine lv_aload_n hx hb dX7_twoFigures_20 rfl (lv_at hl 1 rfl) ?_
    refine lv_iload_n hx hb dX7_twoFigures_21 rfl (lv_at hl 2 rfl) ?_
    refine lv_iload_n hx hb dX7_twoFigures_22 rfl (lv_at hl 3 rfl) ?_
    refine lv_iconst (v := 0) hx hb dX7_twoFigures_23 (by decide) ?_
    refine lv_bipush (v := 9) hx hb dX7_twoFigures_24 (by decide) ?_
    obtain ⟨y15, hy15, hD⟩ := bd_s hD
    refine r_calli (r_runV (As := [.int p1, .int p2, .int (0 : Int32), .int (9 : Int32)]) (rest := []) X I (c_X7_figure l g q _ y6.2 p1 p2 (0 : Int32) (9 : Int32) hy15) kv_X7_figure ml_X7_105 rfl (by decide) (eM_Model g q _) ⟨Nat.le_of_ble_eq_true rfl, Nat.le_of_ble_eq_true rfl⟩ ⟨Nat.zero_le _, Nat.zero_le _⟩ rfl rfl hl.1 (Nat.le_of_ble_eq_true rfl) dX7_twoFigures_26) I (fun H locs I => ?_)
    exact w_X7_twoFigures_29 g q X y15.2 y6.1 y15.1 hD _ _ _ I (lv_sub hl [0] rfl)
  · have hD := ite_n hc9 hD
    refine lv_bipush (v := -9) hx hb dX7_twoFigures_15 (by decide) ?_
    refine lv_goto (tgt := 29) hx hb dX7_twoFigures_17 (by decide) ?_
    exact w_X7_twoFigures_29 g q X y6.2 y6.1 (-9 : Int32) hD _ _ _ I (lv_sub hl [0] rfl)

/-! YearDeckModel.readsSections(II)Z -/
def D_X7_readsSections_63 (σ : St) : Option (Int32 × St) := if (σ 0 12) ≤ 0 then some ((0 : Int32), σ) else some ((1 : Int32), σ)
set_option maxRecDepth 100000 in
set_option maxHeartbeats 4000000 in
theorem w_X7_readsSections_63 {p : Program} {l : Launch} {e : Env} {s : State} {m : MethodId} {args : Array Value} {below : List Frame} {meth : Method} {c : Code} (g : Gh) (q : Nat → Nat) (X : MX p s m args meth c cX7_readsSections 5 (some .boolean) RX7) {rr : (Int32 × St)} (σ : St)  (hD : D_X7_readsSections_63 σ = some rr) (H : Heap) (locs : List Loc) (ls : Array Slot) (I : IM g q s σ H locs) (hl : lv_has ls 5 [(0, .ref (q 0))]) : W p l e (rmD 2) s m args below meth c H locs 0 0 (MQ below (QI g (eM g q) q 22 rr.1 rr.2 s.heap.size) args s 0 0 (AQ q 22 s.heap.size)) (F0 m 63 ls []) := by
  have hx := X.1
  have hb := X.2.1
  unfold D_X7_readsSections_63 at hD
  refine lv_aload_n hx hb dX7_readsSections_63 rfl (lv_at hl 0 rfl) ?_
  refine g_Model_readSections X I fl_X7_109 dX7_readsSections_64 ?_
  refine lv_if_le (tgt := 74) hx hb dX7_readsSections_67 (by decide) (fun hc23 => ?_) (fun hc23 => ?_)
  · have hD := ite_p hc23 hD
    refine lv_iconst (v := 0) hx hb dX7_readsSections_74 (by decide) ?_
    exact r_zret2 X I hD rfl dX7_readsSections_75
  · have hD := ite_n hc23 hD
    refine lv_iconst (v := 1) hx hb dX7_readsSections_70 (by decide) ?_
    refine lv_goto (tgt := 75) hx hb dX7_readsSections_71 (by decide) ?_
    exact r_zret2 X I hD rfl dX7_readsSections_75
def D_X7_readsSections_60 (σ : St) (rc2 : St → Int32 → Option (Int32 × St)) (v1 : Int32) (v2 : Int32) (v3 : Int32) : Option (Int32 × St) := rc2 σ v3
set_option maxRecDepth 100000 in
set_option maxHeartbeats 4000000 in
theorem w_X7_readsSections_60 {p : Program} {l : Launch} {e : Env} {s : State} {m : MethodId} {args : Array Value} {below : List Frame} {meth : Method} {c : Code} (g : Gh) (q : Nat → Nat) (X : MX p s m args meth c cX7_readsSections 5 (some .boolean) RX7) {rr : (Int32 × St)} (σ : St)  (v1 : Int32) (v2 : Int32) (v3 : Int32) (rc2 : St → Int32 → Option (Int32 × St)) (hrc2 : ∀ (σ' : St) (v3' : Int32), rc2 σ' v3' = some rr → ∀ (H : Heap) (locs : List Loc) (ls : Array Slot), IM g q s σ' H locs → lv_has ls 5 [(0, .ref (q 0)), (1, .int v1), (2, .int v2), (3, .int v3')] → W p l e (rmD 2) s m args below meth c H locs 0 0 (MQ below (QI g (eM g q) q 22 rr.1 rr.2 s.heap.size) args s 0 0 (AQ q 22 s.heap.size)) (F0 m 2 ls [])) (hD : D_X7_readsSections_60 σ rc2 v1 v2 v3 = some rr) (H : Heap) (locs : List Loc) (ls : Array Slot) (I : IM g q s σ H locs) (hl : lv_has ls 5 [(0, .ref (q 0)), (1, .int v1), (2, .int v2), (3, .int v3)]) : W p l e (rmD 2) s m args below meth c H locs 0 0 (MQ below (QI g (eM g q) q 22 rr.1 rr.2 s.heap.size) args s 0 0 (AQ q 22 s.heap.size)) (F0 m 60 ls []) := by
  have hx := X.1
  have hb := X.2.1
  unfold D_X7_readsSections_60 at hD
  refine lv_goto (tgt := 2) hx hb dX7_readsSections_60 (by decide) ?_
  exact hrc2 σ v3 hD _ _ _ I (lv_sub hl [0, 1, 2, 3] rfl)
def D_X7_readsSections_34 (σ : St) (rc2 : St → Int32 → Option (Int32 × St)) (v1 : Int32) (v2 : Int32) (v4 : Int32) (t0 : Int32) : Option (Int32 × St) := if t0 = 0 then D_X7_readsSections_60 σ rc2 v1 v2 t0 else gd (inb (σ 0 12) 5) (D_X7_readsSections_60 (up2 (up2 σ 7 (σ 0 12).toNatClampNeg v4) 0 12 (((up2 σ 7 (σ 0 12).toNatClampNeg v4) 0 12) + (1 : Int32))) rc2 v1 v2 t0)
set_option maxRecDepth 100000 in
set_option maxHeartbeats 4000000 in
theorem w_X7_readsSections_34 {p : Program} {l : Launch} {e : Env} {s : State} {m : MethodId} {args : Array Value} {below : List Frame} {meth : Method} {c : Code} (g : Gh) (q : Nat → Nat) (X : MX p s m args meth c cX7_readsSections 5 (some .boolean) RX7) {rr : (Int32 × St)} (σ : St)  (v1 : Int32) (v2 : Int32) (v4 : Int32) (t0 : Int32) (rc2 : St → Int32 → Option (Int32 × St)) (hrc2 : ∀ (σ' : St) (v3' : Int32), rc2 σ' v3' = some rr → ∀ (H : Heap) (locs : List Loc) (ls : Array Slot), IM g q s σ' H locs → lv_has ls 5 [(0, .ref (q 0)), (1, .int v1), (2, .int v2), (3, .int v3')] → W p l e (rmD 2) s m args below meth c H locs 0 0 (MQ below (QI g (eM g q) q 22 rr.1 rr.2 s.heap.size) args s 0 0 (AQ q 22 s.heap.size)) (F0 m 2 ls [])) (hD : D_X7_readsSections_34 σ rc2 v1 v2 v4 t0 = some rr) (H : Heap) (locs : List Loc) (ls : Array Slot) (I : IM g q s σ H locs) (hl : lv_has ls 5 [(0, .ref (q 0)), (1, .int v1), (2, .int v2), (4, .int v4)]) : W p l e (rmD 2) s m args below meth c H locs 0 0 (MQ below (QI g (eM g q) q 22 rr.1 rr.2 s.heap.size) args s 0 0 (AQ q 22 s.heap.size)) (F0 m 34 ls [.int t0]) := by
  have hx := X.1
  have hb := X.2.1
  unfold D_X7_readsSections_34 at hD
  refine lv_istore_n (lv' := [(3, .int t0), (0, .ref (q 0)), (1, .int v1), (2, .int v2), (4, .int v4)]) hx hb dX7_readsSections_34 rfl hl (by decide) rfl (fun ls hl => ?_)
  refine lv_iload_n hx hb dX7_readsSections_35 rfl (lv_at hl 0 rfl) ?_
  refine lv_if_eq (tgt := 60) hx hb dX7_readsSections_36 (by decide) (fun hc31 => ?_) (fun hc31 => ?_)
  · have hD := ite_p hc31 hD
    exact w_X7_readsSections_60 g q X σ v1 v2 t0 rc2 hrc2 hD _ _ _ I (lv_sub hl [1, 2, 3, 0] rfl)
  · have hD := ite_n hc31 hD
    refine lv_aload_n hx hb dX7_readsSections_39 rfl (lv_at hl 1 rfl) ?_
    refine g_Model_readSlope X I fl_X7_28 dX7_readsSections_40 ?_
    refine lv_aload_n hx hb dX7_readsSections_43 rfl (lv_at hl 1 rfl) ?_
    refine g_Model_readSections X I fl_X7_109 dX7_readsSections_44 ?_
    refine lv_iload hx hb dX7_readsSections_47 (lv_at hl 4 rfl) ?_
    obtain ⟨hg37, hD⟩ := gd_s hD
    refine r_iast (eM_loc g q) X I (by decide) (eMa_7 g q) hg37 dX7_readsSections_49 (fun H locs I => ?_)
    refine lv_aload_n hx hb dX7_readsSections_50 rfl (lv_at hl 1 rfl) ?_
    refine lv_dup hx hb dX7_readsSections_51 rfl ?_
    refine g_Model_readSections X I fl_X7_109 dX7_readsSections_52 ?_
    refine lv_iconst (v := 1) hx hb dX7_readsSections_55 (by decide) ?_
    refine lv_iadd hx hb dX7_readsSections_56 ?_
    refine p_Model_readSections X I fl_X7_109 dX7_readsSections_57 (fun H locs I => ?_)
    exact w_X7_readsSections_60 g q X (up2 (up2 σ 7 (σ 0 12).toNatClampNeg v4) 0 12 (((up2 σ 7 (σ 0 12).toNatClampNeg v4) 0 12) + (1 : Int32))) v1 v2 t0 rc2 hrc2 hD _ _ _ I (lv_sub hl [1, 2, 3, 0] rfl)
def D_X7_readsSections_2b (σ : St) (rc2 : St → Int32 → Option (Int32 × St)) (v1 : Int32) (v2 : Int32) (v3 : Int32) : Option (Int32 × St) := if (5 : Int32) ≤ (σ 0 12) then D_X7_readsSections_63 σ else if v3 = 0 then D_X7_readsSections_63 σ else (D_X7_figure σ v1 v2 (0 : Int32) (3 : Int32)).bind fun y14 => if y14.1 < 0 then D_X7_readsSections_34 y14.2 rc2 v1 v2 y14.1 (0 : Int32) else D_X7_readsSections_34 y14.2 rc2 v1 v2 y14.1 (1 : Int32)
set_option maxRecDepth 100000 in
set_option maxHeartbeats 4000000 in
theorem w_X7_readsSections_2b {p : Program} {l : Launch} {e : Env} {s : State} {m : MethodId} {args : Array Value} {below : List Frame} {meth : Method} {c : Code} (g : Gh) (q : Nat → Nat) (X : MX p s m args meth c cX7_readsSections 5 (some .boolean) RX7) {rr : (Int32 × St)} (σ : St)  (v1 : Int32) (v2 : Int32) (v3 : Int32) (rc2 : St → Int32 → Option (Int32 × St)) (hrc2 : ∀ (σ' : St) (v3' : Int32), rc2 σ' v3' = some rr → ∀ (H : Heap) (locs : List Loc) (ls : Array Slot), IM g q s σ' H locs → lv_has ls 5 [(0, .ref (q 0)), (1, .int v1), (2, .int v2), (3, .int v3')] → W p l e (rmD 2) s m args below meth c H locs 0 0 (MQ below (QI g (eM g q) q 22 rr.1 rr.2 s.heap.size) args s 0 0 (AQ q 22 s.heap.size)) (F0 m 2 ls [])) (hD : D_X7_readsSections_2b σ rc2 v1 v2 v3 = some rr) (H : Heap) (locs : List Loc) (ls : Array Slot) (I : IM g q s σ H locs) (hl : lv_has ls 5 [(0, .ref (q 0)), (1, .int v1), (2, .int v2), (3, .int v3)]) : W p l e (rmD 2) s m args below meth c H locs 0 0 (MQ below (QI g (eM g q) q 22 rr.1 rr.2 s.heap.size) args s 0 0 (AQ q 22 s.heap.size)) (F0 m 2 ls []) := by
  have hx := X.1
  have hb := X.2.1
  unfold D_X7_readsSections_2b at hD
  refine lv_aload_n hx hb dX7_readsSections_2 rfl (lv_at hl 0 rfl) ?_
  refine g_Model_readSections X I fl_X7_109 dX7_readsSections_3 ?_
  refine lv_iconst (v := 5) hx hb dX7_readsSections_6 (by decide) ?_
  refine lv_icmp_ge (tgt := 63) hx hb dX7_readsSections_7 (by decide) (fun hc6 => ?_) (fun hc6 => ?_)
  · have hD := ite_p hc6 hD
    exact w_X7_readsSections_63 g q X σ hD _ _ _ I (lv_sub hl [0] rfl)
  · have hD := ite_n hc6 hD
    refine lv_iload_n hx hb dX7_readsSections_10 rfl (lv_at hl 3 rfl) ?_
    refine lv_if_eq (tgt := 63) hx hb dX7_readsSections_11 (by decide) (fun hc8 => ?_) (fun hc8 => ?_)
    · have hD := ite_p hc8 hD
      exact w_X7_readsSections_63 g q X σ hD _ _ _ I (lv_sub hl [0] rfl)
    · have hD := ite_n hc8 hD
      refine lv_aload_n hx hb dX7_readsSections_14 rfl (lv_at hl 0 rfl) ?_
      refine lv_iload_n hx hb dX7_readsSections_15 rfl (lv_at hl 1 rfl) ?_
      refine lv_iload_n hx hb dX7_readsSections_16 rfl (lv_at hl 2 rfl) ?_
      refine lv_iconst (v := 0) hx hb dX7_readsSections_17 (by decide) ?_
      refine lv_iconst (v := 3) hx hb dX7_readsSections_18 (by decide) ?_
      obtain ⟨y14, hy14, hD⟩ := bd_s hD
      refine r_calli (r_runV (As := [.int v1, .int v2, .int (0 : Int32), .int (3 : Int32)]) (rest := []) X I (c_X7_figure l g q _ σ v1 v2 (0 : Int32) (3 : Int32) hy14) kv_X7_figure ml_X7_105 rfl (by decide) (eM_Model g q _) ⟨Nat.le_of_ble_eq_true rfl, Nat.le_of_ble_eq_true rfl⟩ ⟨Nat.zero_le _, Nat.zero_le _⟩ rfl rfl hl.1 (Nat.le_of_ble_eq_true rfl) dX7_readsSections_19) I (fun H locs I => ?_)
      refine lv_istore (lv' := [(4, .int y14.1), (0, .ref (q 0)), (1, .int v1), (2, .int v2), (3, .int v3)]) hx hb dX7_readsSections_22 hl (by decide) rfl (fun ls hl => ?_)
      refine lv_iload hx hb dX7_readsSections_24 (lv_at hl 0 rfl) ?_
      refine lv_if_lt (tgt := 33) hx hb dX7_readsSections_26 (by decide) (fun hc17 => ?_) (fun hc17 => ?_)
      · have hD := ite_p hc17 hD
        refine lv_iconst (v := 0) hx hb dX7_readsSections_33 (by decide) ?_
        exact w_X7_readsSections_34 g q X y14.2 v1 v2 y14.1 (0 : Int32) rc2 hrc2 hD _ _ _ I (lv_sub hl [1, 2, 3, 0] rfl)
      · have hD := ite_n hc17 hD
        refine lv_iconst (v := 1) hx hb dX7_readsSections_29 (by decide) ?_
        refine lv_goto (tgt := 34) hx hb dX7_readsSections_30 (by decide) ?_
        exact w_X7_readsSections_34 g q X y14.2 v1 v2 y14.1 (1 : Int32) rc2 hrc2 hD _ _ _ I (lv_sub hl [1, 2, 3, 0] rfl)
def D_X7_readsSections_2  (v1 : Int32) (v2 : Int32) : Nat → St → Int32 → Option (Int32 × St)
  | 0 => fun _ _ => none
  | n + 1 => fun σ v3 => D_X7_readsSections_2b σ (D_X7_readsSections_2 v1 v2 n) v1 v2 v3
set_option maxRecDepth 100000 in
set_option maxHeartbeats 4000000 in
theorem w_X7_readsSections_2 {p : Program} {l : Launch} {e : Env} {s : State} {m : MethodId} {args : Array Value} {below : List Frame} {meth : Method} {c : Code} (g : Gh) (q : Nat → Nat) (X : MX p s m args meth c cX7_readsSections 5 (some .boolean) RX7) {rr : (Int32 × St)}  (v1 : Int32) (v2 : Int32) : ∀ (n : Nat) (σ : St) (v3 : Int32), D_X7_readsSections_2 v1 v2 n σ v3 = some rr → ∀ (H : Heap) (locs : List Loc) (ls : Array Slot), IM g q s σ H locs → lv_has ls 5 [(0, .ref (q 0)), (1, .int v1), (2, .int v2), (3, .int v3)] → W p l e (rmD 2) s m args below meth c H locs 0 0 (MQ below (QI g (eM g q) q 22 rr.1 rr.2 s.heap.size) args s 0 0 (AQ q 22 s.heap.size)) (F0 m 2 ls []) := by
  intro n
  induction n with
  | zero =>
    intro σ v3 hD H locs ls I hl
    cases hD
  | succ n ih =>
    intro σ v3 hD H locs ls I hl
    exact w_X7_readsSections_2b g q X σ v1 v2 v3 _ ih hD H locs ls I hl
def D_X7_readsSections (σ : St) (p1 : Int32) (p2 : Int32) : Option (Int32 × St) := D_X7_readsSections_2 p1 p2 FU σ (1 : Int32)
set_option maxRecDepth 100000 in
set_option maxHeartbeats 4000000 in
theorem c_X7_readsSections (l : Launch) (g : Gh) (q : Nat → Nat) (sz : Nat) (σ : St) (p1 : Int32) (p2 : Int32) {rr : (Int32 × St)} (hD : D_X7_readsSections σ p1 p2 = some rr) : Met l yX7_readsSections (wU yX7_readsSections cX7_readsSections 5 (some .boolean)) (rmD 2) (PQ g (eM g q) q 22 σ sz [.ref (q 0), .int p1, .int p2]) (QI g (eM g q) q 22 rr.1 rr.2 sz) 0 0 (AQ q 22 sz) := by
  refine met_of (Qc := QI g (eM g q) q 22 rr.1 rr.2) (by decide) (Nat.le_of_ble_eq_true rfl) ?_
  intro p e s m below meth c ls X I hl
  have hx := X.1
  have hb := X.2.1
  have hl : lv_has ls 5 [(0, .ref (q 0)), (1, .int p1), (2, .int p2)] := hl
  unfold D_X7_readsSections at hD
  refine lv_iconst (v := 1) hx hb dX7_readsSections_0 (by decide) ?_
  refine lv_istore_n (lv' := [(3, .int (1 : Int32)), (0, .ref (q 0)), (1, .int p1), (2, .int p2)]) hx hb dX7_readsSections_1 rfl hl (by decide) rfl (fun ls hl => ?_)
  exact w_X7_readsSections_2 g q X p1 p2 FU σ (1 : Int32) hD _ _ _ I (lv_sub hl [1, 2, 3, 0] rfl)

/-! YearDeckModel.readsRider(II)Z -/
def D_X7_readsRider_185 (σ : St) (v4 : Int32) (v5 : Int32) (v6 : Int32) (v7 : Int32) (t0 : Int32) (t1 : Int32) : Option (Int32 × St) := gd (inb t1 4) (gd (inb ((up2 σ 8 t1.toNatClampNeg t0) 0 13) 4) (gd (inb ((up2 (up2 σ 8 t1.toNatClampNeg t0) 9 ((up2 σ 8 t1.toNatClampNeg t0) 0 13).toNatClampNeg v4) 0 13) 4) (gd (inb ((up2 (up2 (up2 σ 8 t1.toNatClampNeg t0) 9 ((up2 σ 8 t1.toNatClampNeg t0) 0 13).toNatClampNeg v4) 10 ((up2 (up2 σ 8 t1.toNatClampNeg t0) 9 ((up2 σ 8 t1.toNatClampNeg t0) 0 13).toNatClampNeg v4) 0 13).toNatClampNeg v5) 0 13) 4) (gd (inb ((up2 (up2 (up2 (up2 σ 8 t1.toNatClampNeg t0) 9 ((up2 σ 8 t1.toNatClampNeg t0) 0 13).toNatClampNeg v4) 10 ((up2 (up2 σ 8 t1.toNatClampNeg t0) 9 ((up2 σ 8 t1.toNatClampNeg t0) 0 13).toNatClampNeg v4) 0 13).toNatClampNeg v5) 11 ((up2 (up2 (up2 σ 8 t1.toNatClampNeg t0) 9 ((up2 σ 8 t1.toNatClampNeg t0) 0 13).toNatClampNeg v4) 10 ((up2 (up2 σ 8 t1.toNatClampNeg t0) 9 ((up2 σ 8 t1.toNatClampNeg t0) 0 13).toNatClampNeg v4) 0 13).toNatClampNeg v5) 0 13).toNatClampNeg v6) 0 13) 4) (some ((1 : Int32), up2 (up2 (up2 (up2 (up2 (up2 σ 8 t1.toNatClampNeg t0) 9 ((up2 σ 8 t1.toNatClampNeg t0) 0 13).toNatClampNeg v4) 10 ((up2 (up2 σ 8 t1.toNatClampNeg t0) 9 ((up2 σ 8 t1.toNatClampNeg t0) 0 13).toNatClampNeg v4) 0 13).toNatClampNeg v5) 11 ((up2 (up2 (up2 σ 8 t1.toNatClampNeg t0) 9 ((up2 σ 8 t1.toNatClampNeg t0) 0 13).toNatClampNeg v4) 10 ((up2 (up2 σ 8 t1.toNatClampNeg t0) 9 ((up2 σ 8 t1.toNatClampNeg t0) 0 13).toNatClampNeg v4) 0 13).toNatClampNeg v5) 0 13).toNatClampNeg v6) 12 ((up2 (up2 (up2 (up2 σ 8 t1.toNatClampNeg t0) 9 ((up2 σ 8 t1.toNatClampNeg t0) 0 13).toNatClampNeg v4) 10 ((up2 (up2 σ 8 t1.toNatClampNeg t0) 9 ((up2 σ 8 t1.toNatClampNeg t0) 0 13).toNatClampNeg v4) 0 13).toNatClampNeg v5) 11 ((up2 (up2 (up2 σ 8 t1.toNatClampNeg t0) 9 ((up2 σ 8 t1.toNatClampNeg t0) 0 13).toNatClampNeg v4) 10 ((up2 (up2 σ 8 t1.toNatClampNeg t0) 9 ((up2 σ 8 t1.toNatClampNeg t0) 0 13).toNatClampNeg v4) 0 13).toNatClampNeg v5) 0 13).toNatClampNeg v6) 0 13).toNatClampNeg v7) 0 13 (((up2 (up2 (up2 (up2 (up2 σ 8 t1.toNatClampNeg t0) 9 ((up2 σ 8 t1.toNatClampNeg t0) 0 13).toNatClampNeg v4) 10 ((up2 (up2 σ 8 t1.toNatClampNeg t0) 9 ((up2 σ 8 t1.toNatClampNeg t0) 0 13).toNatClampNeg v4) 0 13).toNatClampNeg v5) 11 ((up2 (up2 (up2 σ 8 t1.toNatClampNeg t0) 9 ((up2 σ 8 t1.toNatClampNeg t0) 0 13).toNatClampNeg v4) 10 ((up2 (up2 σ 8 t1.toNatClampNeg t0) 9 ((up2 σ 8 t1.toNatClampNeg t0) 0 13).toNatClampNeg v4) 0 13).toNatClampNeg v5) 0 13).toNatClampNeg v6) 12 ((up2 (up2 (up2 (up2 σ 8 t1.toNatClampNeg t0) 9 ((up2 σ 8 t1.toNatClampNeg t0) 0 13).toNatClampNeg v4) 10 ((up2 (up2 σ 8 t1.toNatClampNeg t0) 9 ((up2 σ 8 t1.toNatClampNeg t0) 0 13).toNatClampNeg v4) 0 13).toNatClampNeg v5) 11 ((up2 (up2 (up2 σ 8 t1.toNatClampNeg t0) 9 ((up2 σ 8 t1.toNatClampNeg t0) 0 13).toNatClampNeg v4) 10 ((up2 (up2 σ 8 t1.toNatClampNeg t0) 9 ((up2 σ 8 t1.toNatClampNeg t0) 0 13).toNatClampNeg v4) 0 13).toNatClampNeg v5) 0 13).toNatClampNeg v6) 0 13).toNatClampNeg v7) 0 13) + (1 : Int32))))))))
set_option maxRecDepth 100000 in
set_option maxHeartbeats 4000000 in
theorem w_X7_readsRider_185 {p : Program} {l : Launch} {e : Env} {s : State} {m : MethodId} {args : Array Value} {below : List Frame} {meth : Method} {c : Code} (g : Gh) (q : Nat → Nat) (X : MX p s m args meth c cX7_readsRider 8 (some .boolean) RX7) {rr : (Int32 × St)} (σ : St)  (v4 : Int32) (v5 : Int32) (v6 : Int32) (v7 : Int32) (t0 : Int32) (t1 : Int32) (hD : D_X7_readsRider_185 σ v4 v5 v6 v7 t0 t1 = some rr) (H : Heap) (locs : List Loc) (ls : Array Slot) (I : IM g q s σ H locs) (hl : lv_has ls 8 [(0, .ref (q 0)), (4, .int v4), (5, .int v5), (6, .int v6), (7, .int v7)]) : W p l e (rmD 3) s m args below meth c H locs 0 0 (MQ below (QI g (eM g q) q 22 rr.1 rr.2 s.heap.size) args s 0 0 (AQ q 22 s.heap.size)) (F0 m 185 ls [.int t0, .int t1, .ref (q 8)]) := by
  have hx := X.1
  have hb := X.2.1
  unfold D_X7_readsRider_185 at hD
  obtain ⟨hg106, hD⟩ := gd_s hD
  refine r_iast (eM_loc g q) X I (by decide) (eMa_8 g q) hg106 dX7_readsRider_185 (fun H locs I => ?_)
  refine lv_aload_n hx hb dX7_readsRider_186 rfl (lv_at hl 0 rfl) ?_
  refine g_Model_readOn X I fl_X7_34 dX7_readsRider_187 ?_
  refine lv_aload_n hx hb dX7_readsRider_190 rfl (lv_at hl 0 rfl) ?_
  refine g_Model_readRiders X I fl_X7_112 dX7_readsRider_191 ?_
  refine lv_iload hx hb dX7_readsRider_194 (lv_at hl 1 rfl) ?_
  obtain ⟨hg112, hD⟩ := gd_s hD
  refine r_iast (eM_loc g q) X I (by decide) (eMa_9 g q) hg112 dX7_readsRider_196 (fun H locs I => ?_)
  refine lv_aload_n hx hb dX7_readsRider_197 rfl (lv_at hl 0 rfl) ?_
  refine g_Model_readOff X I fl_X7_37 dX7_readsRider_198 ?_
  refine lv_aload_n hx hb dX7_readsRider_201 rfl (lv_at hl 0 rfl) ?_
  refine g_Model_readRiders X I fl_X7_112 dX7_readsRider_202 ?_
  refine lv_iload hx hb dX7_readsRider_205 (lv_at hl 2 rfl) ?_
  obtain ⟨hg118, hD⟩ := gd_s hD
  refine r_iast (eM_loc g q) X I (by decide) (eMa_10 g q) hg118 dX7_readsRider_207 (fun H locs I => ?_)
  refine lv_aload_n hx hb dX7_readsRider_208 rfl (lv_at hl 0 rfl) ?_
  refine g_Model_readAge X I fl_X7_40 dX7_readsRider_209 ?_
  refine lv_aload_n hx hb dX7_readsRider_212 rfl (lv_at hl 0 rfl) ?_
  refine g_Model_readRiders X I fl_X7_112 dX7_readsRider_213 ?_
  refine lv_iload hx hb dX7_readsRider_216 (lv_at hl 3 rfl) ?_
  obtain ⟨hg124, hD⟩ := gd_s hD
  refine r_iast (eM_loc g q) X I (by decide) (eMa_11 g q) hg124 dX7_readsRider_218 (fun H locs I => ?_)
  refine lv_aload_n hx hb dX7_readsRider_219 rfl (lv_at hl 0 rfl) ?_
  refine g_Model_readWant X I fl_X7_43 dX7_readsRider_220 ?_
  refine lv_aload_n hx hb dX7_readsRider_223 rfl (lv_at hl 0 rfl) ?_
  refine g_Model_readRiders X I fl_X7_112 dX7_readsRider_224 ?_
  refine lv_iload hx hb dX7_readsRider_227 (lv_at hl 4 rfl) ?_
  obtain ⟨hg130, hD⟩ := gd_s hD
  refine r_iast (eM_loc g q) X I (by decide) (eMa_12 g q) hg130 dX7_readsRider_229 (fun H locs I => ?_)
  refine lv_aload_n hx hb dX7_readsRider_230 rfl (lv_at hl 0 rfl) ?_
  refine lv_dup hx hb dX7_readsRider_231 rfl ?_
  refine g_Model_readRiders X I fl_X7_112 dX7_readsRider_232 ?_
  refine lv_iconst (v := 1) hx hb dX7_readsRider_235 (by decide) ?_
  refine lv_iadd hx hb dX7_readsRider_236 ?_
  refine p_Model_readRiders X I fl_X7_112 dX7_readsRider_237 (fun H locs I => ?_)
  refine lv_iconst (v := 1) hx hb dX7_readsRider_240 (by decide) ?_
  exact r_zret2 X I hD rfl dX7_readsRider_241
def D_X7_readsRider_147 (σ : St) (v3 : Int32) (v4 : Int32) (v5 : Int32) (v6 : Int32) (t0 : Int32) : Option (Int32 × St) := if 0 ≤ t0 then if v3 = (114 : Int32) then D_X7_readsRider_185 σ v4 v5 v6 t0 (0 : Int32) (σ 0 13) else if v3 = (108 : Int32) then D_X7_readsRider_185 σ v4 v5 v6 t0 (1 : Int32) (σ 0 13) else D_X7_readsRider_185 σ v4 v5 v6 t0 (2 : Int32) (σ 0 13) else some ((0 : Int32), σ)
set_option maxRecDepth 100000 in
set_option maxHeartbeats 4000000 in
theorem w_X7_readsRider_147 {p : Program} {l : Launch} {e : Env} {s : State} {m : MethodId} {args : Array Value} {below : List Frame} {meth : Method} {c : Code} (g : Gh) (q : Nat → Nat) (X : MX p s m args meth c cX7_readsRider 8 (some .boolean) RX7) {rr : (Int32 × St)} (σ : St)  (v3 : Int32) (v4 : Int32) (v5 : Int32) (v6 : Int32) (t0 : Int32) (hD : D_X7_readsRider_147 σ v3 v4 v5 v6 t0 = some rr) (H : Heap) (locs : List Loc) (ls : Array Slot) (I : IM g q s σ H locs) (hl : lv_has ls 8 [(0, .ref (q 0)), (3, .int v3), (4, .int v4), (5, .int v5), (6, .int v6)]) : W p l e (rmD 3) s m args below meth c H locs 0 0 (MQ below (QI g (eM g q) q 22 rr.1 rr.2 s.heap.size) args s 0 0 (AQ q 22 s.heap.size)) (F0 m 147 ls [.int t0]) := by
  have hx := X.1
  have hb := X.2.1
  unfold D_X7_readsRider_147 at hD
  refine lv_istore (lv' := [(7, .int t0), (0, .ref (q 0)), (3, .int v3), (4, .int v4), (5, .int v5), (6, .int v6)]) hx hb dX7_readsRider_147 hl (by decide) rfl (fun ls hl => ?_)
  refine lv_iload hx hb dX7_readsRider_149 (lv_at hl 0 rfl) ?_
  refine lv_if_ge (tgt := 156) hx hb dX7_readsRider_151 (by decide) (fun hc88 => ?_) (fun hc88 => ?_)
  · have hD := ite_p hc88 hD
    refine lv_aload_n hx hb dX7_readsRider_156 rfl (lv_at hl 1 rfl) ?_
    refine g_Model_readKind X I fl_X7_31 dX7_readsRider_157 ?_
    refine lv_aload_n hx hb dX7_readsRider_160 rfl (lv_at hl 1 rfl) ?_
    refine g_Model_readRiders X I fl_X7_112 dX7_readsRider_161 ?_
    refine lv_iload_n hx hb dX7_readsRider_164 rfl (lv_at hl 2 rfl) ?_
    refine lv_bipush (v := 114) hx hb dX7_readsRider_165 (by decide) ?_
    refine lv_icmp_ne (tgt := 174) hx hb dX7_readsRider_167 (by decide) (fun hc95 => ?_) (fun hc95 => ?_)
    · have hD := ite_n hc95 hD
      refine lv_iload_n hx hb dX7_readsRider_174 rfl (lv_at hl 2 rfl) ?_
      refine lv_bipush (v := 108) hx hb dX7_readsRider_175 (by decide) ?_
      refine lv_icmp_ne (tgt := 184) hx hb dX7_readsRider_177 (by decide) (fun hc98 => ?_) (fun hc98 => ?_)
      · have hD := ite_n hc98 hD
        refine lv_iconst (v := 2) hx hb dX7_readsRider_184 (by decide) ?_
        exact w_X7_readsRider_185 g q X σ v4 v5 v6 t0 (2 : Int32) (σ 0 13) hD _ _ _ I (lv_sub hl [1, 3, 4, 5, 0] rfl)
      · have hD := ite_p hc98 hD
        refine lv_iconst (v := 1) hx hb dX7_readsRider_180 (by decide) ?_
        refine lv_goto (tgt := 185) hx hb dX7_readsRider_181 (by decide) ?_
        exact w_X7_readsRider_185 g q X σ v4 v5 v6 t0 (1 : Int32) (σ 0 13) hD _ _ _ I (lv_sub hl [1, 3, 4, 5, 0] rfl)
    · have hD := ite_p hc95 hD
      refine lv_iconst (v := 0) hx hb dX7_readsRider_170 (by decide) ?_
      refine lv_goto (tgt := 185) hx hb dX7_readsRider_171 (by decide) ?_
      exact w_X7_readsRider_185 g q X σ v4 v5 v6 t0 (0 : Int32) (σ 0 13) hD _ _ _ I (lv_sub hl [1, 3, 4, 5, 0] rfl)
  · have hD := ite_n hc88 hD
    refine lv_iconst (v := 0) hx hb dX7_readsRider_154 (by decide) ?_
    exact r_zret2 X I hD rfl dX7_readsRider_155
def D_X7_readsRider_127 (σ : St) (v1 : Int32) (v2 : Int32) (v3 : Int32) (v4 : Int32) (v5 : Int32) (t0 : Int32) : Option (Int32 × St) := if 0 ≤ t0 then (D_X7_twoFigures σ v1 v2 (9 : Int32)).bind fun y83 => D_X7_readsRider_147 y83.2 v3 v4 v5 t0 y83.1 else D_X7_readsRider_147 σ v3 v4 v5 t0 (-9 : Int32)
set_option maxRecDepth 100000 in
set_option maxHeartbeats 4000000 in
theorem w_X7_readsRider_127 {p : Program} {l : Launch} {e : Env} {s : State} {m : MethodId} {args : Array Value} {below : List Frame} {meth : Method} {c : Code} (g : Gh) (q : Nat → Nat) (X : MX p s m args meth c cX7_readsRider 8 (some .boolean) RX7) {rr : (Int32 × St)} (σ : St)  (v1 : Int32) (v2 : Int32) (v3 : Int32) (v4 : Int32) (v5 : Int32) (t0 : Int32) (hD : D_X7_readsRider_127 σ v1 v2 v3 v4 v5 t0 = some rr) (H : Heap) (locs : List Loc) (ls : Array Slot) (I : IM g q s σ H locs) (hl : lv_has ls 8 [(0, .ref (q 0)), (1, .int v1), (2, .int v2), (3, .int v3), (4, .int v4), (5, .int v5)]) : W p l e (rmD 3) s m args below meth c H locs 0 0 (MQ below (QI g (eM g q) q 22 rr.1 rr.2 s.heap.size) args s 0 0 (AQ q 22 s.heap.size)) (F0 m 127 ls [.int t0]) := by
  have hx := X.1
  have hb := X.2.1
  unfold D_X7_readsRider_127 at hD
  refine lv_istore (lv' := [(6, .int t0), (0, .ref (q 0)), (1, .int v1), (2, .int v2), (3, .int v3), (4, .int v4), (5, .int v5)]) hx hb dX7_readsRider_127 hl (by decide) rfl (fun ls hl => ?_)
  refine lv_iload hx hb dX7_readsRider_129 (lv_at hl 0 rfl) ?_
  refine lv_if_ge (tgt := 139) hx hb dX7_readsRider_131 (by decide) (fun hc78 => ?_) (fun hc78 => ?_)
  · have hD := ite_p hc78 hD
    refine lv_aload_n hx hb dX7_readsRider_139 rfl (lv_at hl 1 rfl) ?_
    refine lv_iload_n hx hb dX7_readsRider_140 rfl (lv_at hl 2 rfl) ?_
    refine lv_iload_n hx hb dX7_readsRider_141 rfl (lv_at hl 3 rfl) ?_
    refine lv_bipush (v := 9) hx hb dX7_readsRider_142 (by decide) ?_
    obtain ⟨y83, hy83, hD⟩ := bd_s hD
    refine r_calli (r_runV (As := [.int v1, .int v2, .int (9 : Int32)]) (rest := []) X I (c_X7_twoFigures l g q _ σ v1 v2 (9 : Int32) hy83) kv_X7_twoFigures ml_X7_115 rfl (by decide) (eM_Model g q _) ⟨Nat.le_of_ble_eq_true rfl, Nat.le_of_ble_eq_true rfl⟩ ⟨Nat.zero_le _, Nat.zero_le _⟩ rfl rfl hl.1 (Nat.le_of_ble_eq_true rfl) dX7_readsRider_144) I (fun H locs I => ?_)
    exact w_X7_readsRider_147 g q X y83.2 v3 v4 v5 t0 y83.1 hD _ _ _ I (lv_sub hl [1, 4, 5, 6, 0] rfl)
  · have hD := ite_n hc78 hD
    refine lv_bipush (v := -9) hx hb dX7_readsRider_134 (by decide) ?_
    refine lv_goto (tgt := 147) hx hb dX7_readsRider_136 (by decide) ?_
    exact w_X7_readsRider_147 g q X σ v3 v4 v5 t0 (-9 : Int32) hD _ _ _ I (lv_sub hl [1, 4, 5, 6, 0] rfl)
def D_X7_readsRider_107 (σ : St) (v1 : Int32) (v2 : Int32) (v3 : Int32) (v4 : Int32) (t0 : Int32) : Option (Int32 × St) := if 0 ≤ t0 then (D_X7_twoFigures σ v1 v2 (7 : Int32)).bind fun y73 => D_X7_readsRider_127 y73.2 v1 v2 v3 v4 t0 y73.1 else D_X7_readsRider_127 σ v1 v2 v3 v4 t0 (-9 : Int32)
set_option maxRecDepth 100000 in
set_option maxHeartbeats 4000000 in
theorem w_X7_readsRider_107 {p : Program} {l : Launch} {e : Env} {s : State} {m : MethodId} {args : Array Value} {below : List Frame} {meth : Method} {c : Code} (g : Gh) (q : Nat → Nat) (X : MX p s m args meth c cX7_readsRider 8 (some .boolean) RX7) {rr : (Int32 × St)} (σ : St)  (v1 : Int32) (v2 : Int32) (v3 : Int32) (v4 : Int32) (t0 : Int32) (hD : D_X7_readsRider_107 σ v1 v2 v3 v4 t0 = some rr) (H : Heap) (locs : List Loc) (ls : Array Slot) (I : IM g q s σ H locs) (hl : lv_has ls 8 [(0, .ref (q 0)), (1, .int v1), (2, .int v2), (3, .int v3), (4, .int v4)]) : W p l e (rmD 3) s m args below meth c H locs 0 0 (MQ below (QI g (eM g q) q 22 rr.1 rr.2 s.heap.size) args s 0 0 (AQ q 22 s.heap.size)) (F0 m 107 ls [.int t0]) := by
  have hx := X.1
  have hb := X.2.1
  unfold D_X7_readsRider_107 at hD
  refine lv_istore (lv' := [(5, .int t0), (0, .ref (q 0)), (1, .int v1), (2, .int v2), (3, .int v3), (4, .int v4)]) hx hb dX7_readsRider_107 hl (by decide) rfl (fun ls hl => ?_)
  refine lv_iload hx hb dX7_readsRider_109 (lv_at hl 0 rfl) ?_
  refine lv_if_ge (tgt := 119) hx hb dX7_readsRider_111 (by decide) (fun hc68 => ?_) (fun hc68 => ?_)
  · have hD := ite_p hc68 hD
    refine lv_aload_n hx hb dX7_readsRider_119 rfl (lv_at hl 1 rfl) ?_
    refine lv_iload_n hx hb dX7_readsRider_120 rfl (lv_at hl 2 rfl) ?_
    refine lv_iload_n hx hb dX7_readsRider_121 rfl (lv_at hl 3 rfl) ?_
    refine lv_bipush (v := 7) hx hb dX7_readsRider_122 (by decide) ?_
    obtain ⟨y73, hy73, hD⟩ := bd_s hD
    refine r_calli (r_runV (As := [.int v1, .int v2, .int (7 : Int32)]) (rest := []) X I (c_X7_twoFigures l g q _ σ v1 v2 (7 : Int32) hy73) kv_X7_twoFigures ml_X7_115 rfl (by decide) (eM_Model g q _) ⟨Nat.le_of_ble_eq_true rfl, Nat.le_of_ble_eq_true rfl⟩ ⟨Nat.zero_le _, Nat.zero_le _⟩ rfl rfl hl.1 (Nat.le_of_ble_eq_true rfl) dX7_readsRider_124) I (fun H locs I => ?_)
    exact w_X7_readsRider_127 g q X y73.2 v1 v2 v3 v4 t0 y73.1 hD _ _ _ I (lv_sub hl [1, 2, 3, 4, 5, 0] rfl)
  · have hD := ite_n hc68 hD
    refine lv_bipush (v := -9) hx hb dX7_readsRider_114 (by decide) ?_
    refine lv_goto (tgt := 127) hx hb dX7_readsRider_116 (by decide) ?_
    exact w_X7_readsRider_127 g q X σ v1 v2 v3 v4 t0 (-9 : Int32) hD _ _ _ I (lv_sub hl [1, 2, 3, 4, 5, 0] rfl)
def D_X7_readsRider_58 (σ : St) (v1 : Int32) (v2 : Int32) (v3 : Int32) : Option (Int32 × St) := (D_X7_figure (up2 σ 0 10 ((σ 0 10) + (1 : Int32))) v1 v2 (0 : Int32) (((up2 σ 0 10 ((σ 0 10) + (1 : Int32))) 0 12) - (1 : Int32))).bind fun y51 => if 0 ≤ y51.1 then (D_X7_figure y51.2 v1 v2 (y51.1 + (1 : Int32)) (y51.2 0 12)).bind fun y63 => D_X7_readsRider_107 y63.2 v1 v2 v3 y51.1 y63.1 else D_X7_readsRider_107 y51.2 v1 v2 v3 y51.1 (-9 : Int32)
set_option maxRecDepth 100000 in
set_option maxHeartbeats 4000000 in
theorem w_X7_readsRider_58 {p : Program} {l : Launch} {e : Env} {s : State} {m : MethodId} {args : Array Value} {below : List Frame} {meth : Method} {c : Code} (g : Gh) (q : Nat → Nat) (X : MX p s m args meth c cX7_readsRider 8 (some .boolean) RX7) {rr : (Int32 × St)} (σ : St)  (v1 : Int32) (v2 : Int32) (v3 : Int32) (hD : D_X7_readsRider_58 σ v1 v2 v3 = some rr) (H : Heap) (locs : List Loc) (ls : Array Slot) (I : IM g q s σ H locs) (hl : lv_has ls 8 [(0, .ref (q 0)), (1, .int v1), (2, .int v2), (3, .int v3)]) : W p l e (rmD 3) s m args below meth c H locs 0 0 (MQ below (QI g (eM g q) q 22 rr.1 rr.2 s.heap.size) args s 0 0 (AQ q 22 s.heap.size)) (F0 m 58 ls []) := by
  have hx := X.1
  have hb := X.2.1
  unfold D_X7_readsRider_58 at hD
  refine lv_aload_n hx hb dX7_readsRider_58 rfl (lv_at hl 0 rfl) ?_
  refine lv_dup hx hb dX7_readsRider_59 rfl ?_
  refine g_Model_readAt X I fl_X7_98 dX7_readsRider_60 ?_
  refine lv_iconst (v := 1) hx hb dX7_readsRider_63 (by decide) ?_
  refine lv_iadd hx hb dX7_readsRider_64 ?_
  refine p_Model_readAt X I fl_X7_98 dX7_readsRider_65 (fun H locs I => ?_)
  refine lv_aload_n hx hb dX7_readsRider_68 rfl (lv_at hl 0 rfl) ?_
  refine lv_iload_n hx hb dX7_readsRider_69 rfl (lv_at hl 1 rfl) ?_
  refine lv_iload_n hx hb dX7_readsRider_70 rfl (lv_at hl 2 rfl) ?_
  refine lv_iconst (v := 0) hx hb dX7_readsRider_71 (by decide) ?_
  refine lv_aload_n hx hb dX7_readsRider_72 rfl (lv_at hl 0 rfl) ?_
  refine g_Model_readSections X I fl_X7_109 dX7_readsRider_73 ?_
  refine lv_iconst (v := 1) hx hb dX7_readsRider_76 (by decide) ?_
  refine lv_isub hx hb dX7_readsRider_77 ?_
  obtain ⟨y51, hy51, hD⟩ := bd_s hD
  refine r_calli (r_runV (As := [.int v1, .int v2, .int (0 : Int32), .int (((up2 σ 0 10 ((σ 0 10) + (1 : Int32))) 0 12) - (1 : Int32))]) (rest := []) X I (c_X7_figure l g q _ (up2 σ 0 10 ((σ 0 10) + (1 : Int32))) v1 v2 (0 : Int32) (((up2 σ 0 10 ((σ 0 10) + (1 : Int32))) 0 12) - (1 : Int32)) hy51) kv_X7_figure ml_X7_105 rfl (by decide) (eM_Model g q _) ⟨Nat.le_of_ble_eq_true rfl, Nat.le_of_ble_eq_true rfl⟩ ⟨Nat.zero_le _, Nat.zero_le _⟩ rfl rfl hl.1 (Nat.le_of_ble_eq_true rfl) dX7_readsRider_78) I (fun H locs I => ?_)
  refine lv_istore (lv' := [(4, .int y51.1), (0, .ref (q 0)), (1, .int v1), (2, .int v2), (3, .int v3)]) hx hb dX7_readsRider_81 hl (by decide) rfl (fun ls hl => ?_)
  refine lv_iload hx hb dX7_readsRider_83 (lv_at hl 0 rfl) ?_
  refine lv_if_ge (tgt := 93) hx hb dX7_readsRider_85 (by decide) (fun hc54 => ?_) (fun hc54 => ?_)
  · have hD := ite_p hc54 hD
    refine lv_aload_n hx hb dX7_readsRider_93 rfl (lv_at hl 1 rfl) ?_
    refine lv_iload_n hx hb dX7_readsRider_94 rfl (lv_at hl 2 rfl) ?_
    refine lv_iload_n hx hb dX7_readsRider_95 rfl (lv_at hl 3 rfl) ?_
    refine lv_iload hx hb dX7_readsRider_96 (lv_at hl 0 rfl) ?_
    refine lv_iconst (v := 1) hx hb dX7_readsRider_98 (by decide) ?_
    refine lv_iadd hx hb dX7_readsRider_99 ?_
    refine lv_aload_n hx hb dX7_readsRider_100 rfl (lv_at hl 1 rfl) ?_
    refine g_Model_readSections X I fl_X7_109 dX7_readsRider_101 ?_
    obtain ⟨y63, hy63, hD⟩ := bd_s hD
    refine r_calli (r_runV (As := [.int v1, .int v2, .int (y51.1 + (1 : Int32)), .int (y51.2 0 12)]) (rest := []) X I (c_X7_figure l g q _ y51.2 v1 v2 (y51.1 + (1 : Int32)) (y51.2 0 12) hy63) kv_X7_figure ml_X7_105 rfl (by decide) (eM_Model g q _) ⟨Nat.le_of_ble_eq_true rfl, Nat.le_of_ble_eq_true rfl⟩ ⟨Nat.zero_le _, Nat.zero_le _⟩ rfl rfl hl.1 (Nat.le_of_ble_eq_true rfl) dX7_readsRider_104) I (fun H locs I => ?_)
    exact w_X7_readsRider_107 g q X y63.2 v1 v2 v3 y51.1 y63.1 hD _ _ _ I (lv_sub hl [1, 2, 3, 4, 0] rfl)
  · have hD := ite_n hc54 hD
    refine lv_bipush (v := -9) hx hb dX7_readsRider_88 (by decide) ?_
    refine lv_goto (tgt := 107) hx hb dX7_readsRider_90 (by decide) ?_
    exact w_X7_readsRider_107 g q X y51.2 v1 v2 v3 y51.1 (-9 : Int32) hD _ _ _ I (lv_sub hl [1, 2, 3, 4, 0] rfl)
def D_X7_readsRider (σ : St) (p1 : Int32) (p2 : Int32) : Option (Int32 × St) := if (σ 0 13) = (4 : Int32) then some ((0 : Int32), σ) else (D_X7_codeAt σ p1 p2).bind fun y10 => if y10 = (59 : Int32) then (D_X7_codeAt (up2 σ 0 10 ((σ 0 10) + (1 : Int32))) p1 p2).bind fun y22 => if y22 = (114 : Int32) then D_X7_readsRider_58 (up2 σ 0 10 ((σ 0 10) + (1 : Int32))) p1 p2 y22 else if y22 = (108 : Int32) then D_X7_readsRider_58 (up2 σ 0 10 ((σ 0 10) + (1 : Int32))) p1 p2 y22 else if y22 = (101 : Int32) then D_X7_readsRider_58 (up2 σ 0 10 ((σ 0 10) + (1 : Int32))) p1 p2 y22 else some ((0 : Int32), up2 σ 0 10 ((σ 0 10) + (1 : Int32))) else some ((0 : Int32), σ)
set_option maxRecDepth 100000 in
set_option maxHeartbeats 4000000 in
theorem c_X7_readsRider (l : Launch) (g : Gh) (q : Nat → Nat) (sz : Nat) (σ : St) (p1 : Int32) (p2 : Int32) {rr : (Int32 × St)} (hD : D_X7_readsRider σ p1 p2 = some rr) : Met l yX7_readsRider (wU yX7_readsRider cX7_readsRider 8 (some .boolean)) (rmD 3) (PQ g (eM g q) q 22 σ sz [.ref (q 0), .int p1, .int p2]) (QI g (eM g q) q 22 rr.1 rr.2 sz) 0 0 (AQ q 22 sz) := by
  refine met_of (Qc := QI g (eM g q) q 22 rr.1 rr.2) (by decide) (Nat.le_of_ble_eq_true rfl) ?_
  intro p e s m below meth c ls X I hl
  have hx := X.1
  have hb := X.2.1
  have hl : lv_has ls 8 [(0, .ref (q 0)), (1, .int p1), (2, .int p2)] := hl
  unfold D_X7_readsRider at hD
  refine lv_aload_n hx hb dX7_readsRider_0 rfl (lv_at hl 0 rfl) ?_
  refine g_Model_readRiders X I fl_X7_112 dX7_readsRider_1 ?_
  refine lv_iconst (v := 4) hx hb dX7_readsRider_4 (by decide) ?_
  refine lv_icmp_eq (tgt := 19) hx hb dX7_readsRider_5 (by decide) (fun hc4 => ?_) (fun hc4 => ?_)
  · have hD := ite_p hc4 hD
    refine lv_iconst (v := 0) hx hb dX7_readsRider_19 (by decide) ?_
    exact r_zret2 X I hD rfl dX7_readsRider_20
  · have hD := ite_n hc4 hD
    refine lv_aload_n hx hb dX7_readsRider_8 rfl (lv_at hl 0 rfl) ?_
    refine lv_iload_n hx hb dX7_readsRider_9 rfl (lv_at hl 1 rfl) ?_
    refine lv_iload_n hx hb dX7_readsRider_10 rfl (lv_at hl 2 rfl) ?_
    obtain ⟨y10, hy10, hD⟩ := bd_s hD
    refine r_calli (r_runV (As := [.int p1, .int p2]) (rest := []) X I (c_X7_codeAt l g q _ σ p1 p2 hy10) kv_X7_codeAt ml_X7_101 rfl (by decide) (eM_Model g q _) ⟨Nat.le_of_ble_eq_true rfl, Nat.le_of_ble_eq_true rfl⟩ ⟨Nat.zero_le _, Nat.zero_le _⟩ rfl rfl hl.1 (Nat.le_of_ble_eq_true rfl) dX7_readsRider_11) I (fun H locs I => ?_)
    refine lv_bipush (v := 59) hx hb dX7_readsRider_14 (by decide) ?_
    refine lv_icmp_eq (tgt := 21) hx hb dX7_readsRider_16 (by decide) (fun hc12 => ?_) (fun hc12 => ?_)
    · have hD := ite_p hc12 hD
      refine lv_aload_n hx hb dX7_readsRider_21 rfl (lv_at hl 0 rfl) ?_
      refine lv_dup hx hb dX7_readsRider_22 rfl ?_
      refine g_Model_readAt X I fl_X7_98 dX7_readsRider_23 ?_
      refine lv_iconst (v := 1) hx hb dX7_readsRider_26 (by decide) ?_
      refine lv_iadd hx hb dX7_readsRider_27 ?_
      refine p_Model_readAt X I fl_X7_98 dX7_readsRider_28 (fun H locs I => ?_)
      refine lv_aload_n hx hb dX7_readsRider_31 rfl (lv_at hl 0 rfl) ?_
      refine lv_iload_n hx hb dX7_readsRider_32 rfl (lv_at hl 1 rfl) ?_
      refine lv_iload_n hx hb dX7_readsRider_33 rfl (lv_at hl 2 rfl) ?_
      obtain ⟨y22, hy22, hD⟩ := bd_s hD
      refine r_calli (r_runV (As := [.int p1, .int p2]) (rest := []) X I (c_X7_codeAt l g q _ (up2 σ 0 10 ((σ 0 10) + (1 : Int32))) p1 p2 hy22) kv_X7_codeAt ml_X7_101 rfl (by decide) (eM_Model g q _) ⟨Nat.le_of_ble_eq_true rfl, Nat.le_of_ble_eq_true rfl⟩ ⟨Nat.zero_le _, Nat.zero_le _⟩ rfl rfl hl.1 (Nat.le_of_ble_eq_true rfl) dX7_readsRider_34) I (fun H locs I => ?_)
      refine lv_istore_n (lv' := [(3, .int y22), (0, .ref (q 0)), (1, .int p1), (2, .int p2)]) hx hb dX7_readsRider_37 rfl hl (by decide) rfl (fun ls hl => ?_)
      refine lv_iload_n hx hb dX7_readsRider_38 rfl (lv_at hl 0 rfl) ?_
      refine lv_bipush (v := 114) hx hb dX7_readsRider_39 (by decide) ?_
      refine lv_icmp_eq (tgt := 58) hx hb dX7_readsRider_41 (by decide) (fun hc26 => ?_) (fun hc26 => ?_)
      · have hD := ite_p hc26 hD
        exact w_X7_readsRider_58 g q X (up2 σ 0 10 ((σ 0 10) + (1 : Int32))) p1 p2 y22 hD _ _ _ I (lv_sub hl [1, 2, 3, 0] rfl)
      · have hD := ite_n hc26 hD
        refine lv_iload_n hx hb dX7_readsRider_44 rfl (lv_at hl 0 rfl) ?_
        refine lv_bipush (v := 108) hx hb dX7_readsRider_45 (by decide) ?_
        refine lv_icmp_eq (tgt := 58) hx hb dX7_readsRider_47 (by decide) (fun hc29 => ?_) (fun hc29 => ?_)
        · have hD := ite_p hc29 hD
          exact w_X7_readsRider_58 g q X (up2 σ 0 10 ((σ 0 10) + (1 : Int32))) p1 p2 y22 hD _ _ _ I (lv_sub hl [1, 2, 3, 0] rfl)
        · have hD := ite_n hc29 hD
          refine lv_iload_n hx hb dX7_readsRider_50 rfl (lv_at hl 0 rfl) ?_
          refine lv_bipush (v := 101) hx hb dX7_readsRider_51 (by decide) ?_
          refine lv_icmp_eq (tgt := 58) hx hb dX7_readsRider_53 (by decide) (fun hc32 => ?_) (fun hc32 => ?_)
          · have hD := ite_p hc32 hD
            exact w_X7_readsRider_58 g q X (up2 σ 0 10 ((σ 0 10) + (1 : Int32))) p1 p2 y22 hD _ _ _ I (lv_sub hl [1, 2, 3, 0] rfl)
          · have hD := ite_n hc32 hD
            refine lv_iconst (v := 0) hx hb dX7_readsRider_56 (by decide) ?_
            exact r_zret2 X I hD rfl dX7_readsRider_57
    · have hD := ite_n hc12 hD
      refine lv_iconst (v := 0) hx hb dX7_readsRider_19 (by decide) ?_
      exact r_zret2 X I hD rfl dX7_readsRider_20

/-! YearDeckModel.readsRide(II)Z -/
def D_X7_readsRide_151 (σ : St) (rc132 : St → Int32 → Option (Int32 × St)) (v1 : Int32) (v2 : Int32) : Option (Int32 × St) := (D_X7_readsRider σ v1 v2).bind fun y92 => rc132 y92.2 y92.1
set_option maxRecDepth 100000 in
set_option maxHeartbeats 4000000 in
theorem w_X7_readsRide_151 {p : Program} {l : Launch} {e : Env} {s : State} {m : MethodId} {args : Array Value} {below : List Frame} {meth : Method} {c : Code} (g : Gh) (q : Nat → Nat) (X : MX p s m args meth c cX7_readsRide 4 (some .boolean) RX7) {rr : (Int32 × St)} (σ : St)  (v1 : Int32) (v2 : Int32) (rc132 : St → Int32 → Option (Int32 × St)) (hrc132 : ∀ (σ' : St) (v3' : Int32), rc132 σ' v3' = some rr → ∀ (H : Heap) (locs : List Loc) (ls : Array Slot), IM g q s σ' H locs → lv_has ls 4 [(0, .ref (q 0)), (1, .int v1), (2, .int v2), (3, .int v3')] → W p l e (rmD 4) s m args below meth c H locs 0 0 (MQ below (QI g (eM g q) q 22 rr.1 rr.2 s.heap.size) args s 0 0 (AQ q 22 s.heap.size)) (F0 m 132 ls [])) (hD : D_X7_readsRide_151 σ rc132 v1 v2 = some rr) (H : Heap) (locs : List Loc) (ls : Array Slot) (I : IM g q s σ H locs) (hl : lv_has ls 4 [(0, .ref (q 0)), (1, .int v1), (2, .int v2)]) : W p l e (rmD 4) s m args below meth c H locs 0 0 (MQ below (QI g (eM g q) q 22 rr.1 rr.2 s.heap.size) args s 0 0 (AQ q 22 s.heap.size)) (F0 m 151 ls []) := by
  have hx := X.1
  have hb := X.2.1
  unfold D_X7_readsRide_151 at hD
  refine lv_aload_n hx hb dX7_readsRide_151 rfl (lv_at hl 0 rfl) ?_
  refine lv_iload_n hx hb dX7_readsRide_152 rfl (lv_at hl 1 rfl) ?_
  refine lv_iload_n hx hb dX7_readsRide_153 rfl (lv_at hl 2 rfl) ?_
  obtain ⟨y92, hy92, hD⟩ := bd_s hD
  refine r_calli (r_runV (As := [.int v1, .int v2]) (rest := []) X I (c_X7_readsRider l g q _ σ v1 v2 hy92) kv_X7_readsRider ml_X7_126 rfl (by decide) (eM_Model g q _) ⟨Nat.le_of_ble_eq_true rfl, Nat.le_of_ble_eq_true rfl⟩ ⟨Nat.zero_le _, Nat.zero_le _⟩ rfl rfl hl.1 (Nat.le_of_ble_eq_true rfl) dX7_readsRide_154) I (fun H locs I => ?_)
  refine lv_istore_n (lv' := [(3, .int y92.1), (0, .ref (q 0)), (1, .int v1), (2, .int v2)]) hx hb dX7_readsRide_157 rfl hl (by decide) rfl (fun ls hl => ?_)
  refine lv_goto (tgt := 132) hx hb dX7_readsRide_158 (by decide) ?_
  exact hrc132 y92.2 y92.1 hD _ _ _ I (lv_sub hl [1, 2, 3, 0] rfl)
def D_X7_readsRide_132b (σ : St) (rc132 : St → Int32 → Option (Int32 × St)) (v1 : Int32) (v2 : Int32) (v3 : Int32) : Option (Int32 × St) := if v3 = 0 then gd (isB v3) (some (v3, σ)) else if (σ 0 13) = 0 then D_X7_readsRide_151 σ rc132 v1 v2 else if v2 ≤ (σ 0 10) then gd (isB v3) (some (v3, σ)) else D_X7_readsRide_151 σ rc132 v1 v2
set_option maxRecDepth 100000 in
set_option maxHeartbeats 4000000 in
theorem w_X7_readsRide_132b {p : Program} {l : Launch} {e : Env} {s : State} {m : MethodId} {args : Array Value} {below : List Frame} {meth : Method} {c : Code} (g : Gh) (q : Nat → Nat) (X : MX p s m args meth c cX7_readsRide 4 (some .boolean) RX7) {rr : (Int32 × St)} (σ : St)  (v1 : Int32) (v2 : Int32) (v3 : Int32) (rc132 : St → Int32 → Option (Int32 × St)) (hrc132 : ∀ (σ' : St) (v3' : Int32), rc132 σ' v3' = some rr → ∀ (H : Heap) (locs : List Loc) (ls : Array Slot), IM g q s σ' H locs → lv_has ls 4 [(0, .ref (q 0)), (1, .int v1), (2, .int v2), (3, .int v3')] → W p l e (rmD 4) s m args below meth c H locs 0 0 (MQ below (QI g (eM g q) q 22 rr.1 rr.2 s.heap.size) args s 0 0 (AQ q 22 s.heap.size)) (F0 m 132 ls [])) (hD : D_X7_readsRide_132b σ rc132 v1 v2 v3 = some rr) (H : Heap) (locs : List Loc) (ls : Array Slot) (I : IM g q s σ H locs) (hl : lv_has ls 4 [(0, .ref (q 0)), (1, .int v1), (2, .int v2), (3, .int v3)]) : W p l e (rmD 4) s m args below meth c H locs 0 0 (MQ below (QI g (eM g q) q 22 rr.1 rr.2 s.heap.size) args s 0 0 (AQ q 22 s.heap.size)) (F0 m 132 ls []) := by
  have hx := X.1
  have hb := X.2.1
  unfold D_X7_readsRide_132b at hD
  refine lv_iload_n hx hb dX7_readsRide_132 rfl (lv_at hl 3 rfl) ?_
  refine lv_if_eq (tgt := 161) hx hb dX7_readsRide_133 (by decide) (fun hc77 => ?_) (fun hc77 => ?_)
  · have hD := ite_p hc77 hD
    refine lv_iload_n hx hb dX7_readsRide_161 rfl (lv_at hl 3 rfl) ?_
    obtain ⟨hg79, hD⟩ := gd_s hD
    exact r_zret2 X I hD hg79 dX7_readsRide_162
  · have hD := ite_n hc77 hD
    refine lv_aload_n hx hb dX7_readsRide_136 rfl (lv_at hl 0 rfl) ?_
    refine g_Model_readRiders X I fl_X7_112 dX7_readsRide_137 ?_
    refine lv_if_eq (tgt := 151) hx hb dX7_readsRide_140 (by decide) (fun hc82 => ?_) (fun hc82 => ?_)
    · have hD := ite_p hc82 hD
      exact w_X7_readsRide_151 g q X σ v1 v2 rc132 hrc132 hD _ _ _ I (lv_sub hl [0, 1, 2] rfl)
    · have hD := ite_n hc82 hD
      refine lv_aload_n hx hb dX7_readsRide_143 rfl (lv_at hl 0 rfl) ?_
      refine g_Model_readAt X I fl_X7_98 dX7_readsRide_144 ?_
      refine lv_iload_n hx hb dX7_readsRide_147 rfl (lv_at hl 2 rfl) ?_
      refine lv_icmp_ge (tgt := 161) hx hb dX7_readsRide_148 (by decide) (fun hc86 => ?_) (fun hc86 => ?_)
      · have hD := ite_p hc86 hD
        refine lv_iload_n hx hb dX7_readsRide_161 rfl (lv_at hl 3 rfl) ?_
        obtain ⟨hg88, hD⟩ := gd_s hD
        exact r_zret2 X I hD hg88 dX7_readsRide_162
      · have hD := ite_n hc86 hD
        exact w_X7_readsRide_151 g q X σ v1 v2 rc132 hrc132 hD _ _ _ I (lv_sub hl [0, 1, 2] rfl)
def D_X7_readsRide_132  (v1 : Int32) (v2 : Int32) : Nat → St → Int32 → Option (Int32 × St)
  | 0 => fun _ _ => none
  | n + 1 => fun σ v3 => D_X7_readsRide_132b σ (D_X7_readsRide_132 v1 v2 n) v1 v2 v3
set_option maxRecDepth 100000 in
set_option maxHeartbeats 4000000 in
theorem w_X7_readsRide_132 {p : Program} {l : Launch} {e : Env} {s : State} {m : MethodId} {args : Array Value} {below : List Frame} {meth : Method} {c : Code} (g : Gh) (q : Nat → Nat) (X : MX p s m args meth c cX7_readsRide 4 (some .boolean) RX7) {rr : (Int32 × St)}  (v1 : Int32) (v2 : Int32) : ∀ (n : Nat) (σ : St) (v3 : Int32), D_X7_readsRide_132 v1 v2 n σ v3 = some rr → ∀ (H : Heap) (locs : List Loc) (ls : Array Slot), IM g q s σ H locs → lv_has ls 4 [(0, .ref (q 0)), (1, .int v1), (2, .int v2), (3, .int v3)] → W p l e (rmD 4) s m args below meth c H locs 0 0 (MQ below (QI g (eM g q) q 22 rr.1 rr.2 s.heap.size) args s 0 0 (AQ q 22 s.heap.size)) (F0 m 132 ls []) := by
  intro n
  induction n with
  | zero =>
    intro σ v3 hD H locs ls I hl
    cases hD
  | succ n ih =>
    intro σ v3 hD H locs ls I hl
    exact w_X7_readsRide_132b g q X σ v1 v2 v3 _ ih hD H locs ls I hl
def D_X7_readsRide_131 (σ : St) (v1 : Int32) (v2 : Int32) (t0 : Int32) : Option (Int32 × St) := D_X7_readsRide_132 v1 v2 FU σ t0
set_option maxRecDepth 100000 in
set_option maxHeartbeats 4000000 in
theorem w_X7_readsRide_131 {p : Program} {l : Launch} {e : Env} {s : State} {m : MethodId} {args : Array Value} {below : List Frame} {meth : Method} {c : Code} (g : Gh) (q : Nat → Nat) (X : MX p s m args meth c cX7_readsRide 4 (some .boolean) RX7) {rr : (Int32 × St)} (σ : St)  (v1 : Int32) (v2 : Int32) (t0 : Int32) (hD : D_X7_readsRide_131 σ v1 v2 t0 = some rr) (H : Heap) (locs : List Loc) (ls : Array Slot) (I : IM g q s σ H locs) (hl : lv_has ls 4 [(0, .ref (q 0)), (1, .int v1), (2, .int v2)]) : W p l e (rmD 4) s m args below meth c H locs 0 0 (MQ below (QI g (eM g q) q 22 rr.1 rr.2 s.heap.size) args s 0 0 (AQ q 22 s.heap.size)) (F0 m 131 ls [.int t0]) := by
  have hx := X.1
  have hb := X.2.1
  unfold D_X7_readsRide_131 at hD
  refine lv_istore_n (lv' := [(3, .int t0), (0, .ref (q 0)), (1, .int v1), (2, .int v2)]) hx hb dX7_readsRide_131 rfl hl (by decide) rfl (fun ls hl => ?_)
  exact w_X7_readsRide_132 g q X v1 v2 FU σ t0 hD _ _ _ I (lv_sub hl [1, 2, 3, 0] rfl)
def D_X7_readsRide_130 (σ : St) (v1 : Int32) (v2 : Int32) : Option (Int32 × St) := D_X7_readsRide_131 σ v1 v2 (0 : Int32)
set_option maxRecDepth 100000 in
set_option maxHeartbeats 4000000 in
theorem w_X7_readsRide_130 {p : Program} {l : Launch} {e : Env} {s : State} {m : MethodId} {args : Array Value} {below : List Frame} {meth : Method} {c : Code} (g : Gh) (q : Nat → Nat) (X : MX p s m args meth c cX7_readsRide 4 (some .boolean) RX7) {rr : (Int32 × St)} (σ : St)  (v1 : Int32) (v2 : Int32) (hD : D_X7_readsRide_130 σ v1 v2 = some rr) (H : Heap) (locs : List Loc) (ls : Array Slot) (I : IM g q s σ H locs) (hl : lv_has ls 4 [(0, .ref (q 0)), (1, .int v1), (2, .int v2)]) : W p l e (rmD 4) s m args below meth c H locs 0 0 (MQ below (QI g (eM g q) q 22 rr.1 rr.2 s.heap.size) args s 0 0 (AQ q 22 s.heap.size)) (F0 m 130 ls []) := by
  have hx := X.1
  have hb := X.2.1
  unfold D_X7_readsRide_130 at hD
  refine lv_iconst (v := 0) hx hb dX7_readsRide_130 (by decide) ?_
  exact w_X7_readsRide_131 g q X σ v1 v2 (0 : Int32) hD _ _ _ I (lv_sub hl [0, 1, 2] rfl)
def D_X7_readsRide_109 (σ : St) (v1 : Int32) (v2 : Int32) (v3 : Int32) (t0 : Int32) (t1 : Int32) : Option (Int32 × St) := if v3 = 0 then D_X7_readsRide_130 (up2 σ 0 10 (t1 + t0)) v1 v2 else (D_X7_readsSections (up2 σ 0 10 (t1 + t0)) v1 v2).bind fun y70 => if y70.1 = 0 then D_X7_readsRide_130 y70.2 v1 v2 else D_X7_readsRide_131 y70.2 v1 v2 (1 : Int32)
set_option maxRecDepth 100000 in
set_option maxHeartbeats 4000000 in
theorem w_X7_readsRide_109 {p : Program} {l : Launch} {e : Env} {s : State} {m : MethodId} {args : Array Value} {below : List Frame} {meth : Method} {c : Code} (g : Gh) (q : Nat → Nat) (X : MX p s m args meth c cX7_readsRide 4 (some .boolean) RX7) {rr : (Int32 × St)} (σ : St)  (v1 : Int32) (v2 : Int32) (v3 : Int32) (t0 : Int32) (t1 : Int32) (hD : D_X7_readsRide_109 σ v1 v2 v3 t0 t1 = some rr) (H : Heap) (locs : List Loc) (ls : Array Slot) (I : IM g q s σ H locs) (hl : lv_has ls 4 [(0, .ref (q 0)), (1, .int v1), (2, .int v2), (3, .int v3)]) : W p l e (rmD 4) s m args below meth c H locs 0 0 (MQ below (QI g (eM g q) q 22 rr.1 rr.2 s.heap.size) args s 0 0 (AQ q 22 s.heap.size)) (F0 m 109 ls [.int t0, .int t1, .ref (q 0)]) := by
  have hx := X.1
  have hb := X.2.1
  unfold D_X7_readsRide_109 at hD
  refine lv_iadd hx hb dX7_readsRide_109 ?_
  refine p_Model_readAt X I fl_X7_98 dX7_readsRide_110 (fun H locs I => ?_)
  refine lv_iload_n hx hb dX7_readsRide_113 rfl (lv_at hl 3 rfl) ?_
  refine lv_if_eq (tgt := 130) hx hb dX7_readsRide_114 (by decide) (fun hc66 => ?_) (fun hc66 => ?_)
  · have hD := ite_p hc66 hD
    exact w_X7_readsRide_130 g q X (up2 σ 0 10 (t1 + t0)) v1 v2 hD _ _ _ I (lv_sub hl [0, 1, 2] rfl)
  · have hD := ite_n hc66 hD
    refine lv_aload_n hx hb dX7_readsRide_117 rfl (lv_at hl 0 rfl) ?_
    refine lv_iload_n hx hb dX7_readsRide_118 rfl (lv_at hl 1 rfl) ?_
    refine lv_iload_n hx hb dX7_readsRide_119 rfl (lv_at hl 2 rfl) ?_
    obtain ⟨y70, hy70, hD⟩ := bd_s hD
    refine r_calli (r_runV (As := [.int v1, .int v2]) (rest := []) X I (c_X7_readsSections l g q _ (up2 σ 0 10 (t1 + t0)) v1 v2 hy70) kv_X7_readsSections ml_X7_122 rfl (by decide) (eM_Model g q _) ⟨Nat.le_of_ble_eq_true rfl, Nat.le_of_ble_eq_true rfl⟩ ⟨Nat.zero_le _, Nat.zero_le _⟩ rfl rfl hl.1 (Nat.le_of_ble_eq_true rfl) dX7_readsRide_120) I (fun H locs I => ?_)
    refine lv_if_eq (tgt := 130) hx hb dX7_readsRide_123 (by decide) (fun hc71 => ?_) (fun hc71 => ?_)
    · have hD := ite_p hc71 hD
      exact w_X7_readsRide_130 g q X y70.2 v1 v2 hD _ _ _ I (lv_sub hl [0, 1, 2] rfl)
    · have hD := ite_n hc71 hD
      refine lv_iconst (v := 1) hx hb dX7_readsRide_126 (by decide) ?_
      refine lv_goto (tgt := 131) hx hb dX7_readsRide_127 (by decide) ?_
      exact w_X7_readsRide_131 g q X y70.2 v1 v2 (1 : Int32) hD _ _ _ I (lv_sub hl [0, 1, 2] rfl)
def D_X7_readsRide_94 (σ : St) (v1 : Int32) (v2 : Int32) (t0 : Int32) : Option (Int32 × St) := if t0 = 0 then D_X7_readsRide_109 σ v1 v2 t0 (0 : Int32) (σ 0 10) else D_X7_readsRide_109 σ v1 v2 t0 (1 : Int32) (σ 0 10)
set_option maxRecDepth 100000 in
set_option maxHeartbeats 4000000 in
theorem w_X7_readsRide_94 {p : Program} {l : Launch} {e : Env} {s : State} {m : MethodId} {args : Array Value} {below : List Frame} {meth : Method} {c : Code} (g : Gh) (q : Nat → Nat) (X : MX p s m args meth c cX7_readsRide 4 (some .boolean) RX7) {rr : (Int32 × St)} (σ : St)  (v1 : Int32) (v2 : Int32) (t0 : Int32) (hD : D_X7_readsRide_94 σ v1 v2 t0 = some rr) (H : Heap) (locs : List Loc) (ls : Array Slot) (I : IM g q s σ H locs) (hl : lv_has ls 4 [(0, .ref (q 0)), (1, .int v1), (2, .int v2)]) : W p l e (rmD 4) s m args below meth c H locs 0 0 (MQ below (QI g (eM g q) q 22 rr.1 rr.2 s.heap.size) args s 0 0 (AQ q 22 s.heap.size)) (F0 m 94 ls [.int t0]) := by
  have hx := X.1
  have hb := X.2.1
  unfold D_X7_readsRide_94 at hD
  refine lv_istore_n (lv' := [(3, .int t0), (0, .ref (q 0)), (1, .int v1), (2, .int v2)]) hx hb dX7_readsRide_94 rfl hl (by decide) rfl (fun ls hl => ?_)
  refine lv_aload_n hx hb dX7_readsRide_95 rfl (lv_at hl 1 rfl) ?_
  refine lv_dup hx hb dX7_readsRide_96 rfl ?_
  refine g_Model_readAt X I fl_X7_98 dX7_readsRide_97 ?_
  refine lv_iload_n hx hb dX7_readsRide_100 rfl (lv_at hl 0 rfl) ?_
  refine lv_if_eq (tgt := 108) hx hb dX7_readsRide_101 (by decide) (fun hc59 => ?_) (fun hc59 => ?_)
  · have hD := ite_p hc59 hD
    refine lv_iconst (v := 0) hx hb dX7_readsRide_108 (by decide) ?_
    exact w_X7_readsRide_109 g q X σ v1 v2 t0 (0 : Int32) (σ 0 10) hD _ _ _ I (lv_sub hl [1, 2, 3, 0] rfl)
  · have hD := ite_n hc59 hD
    refine lv_iconst (v := 1) hx hb dX7_readsRide_104 (by decide) ?_
    refine lv_goto (tgt := 109) hx hb dX7_readsRide_105 (by decide) ?_
    exact w_X7_readsRide_109 g q X σ v1 v2 t0 (1 : Int32) (σ 0 10) hD _ _ _ I (lv_sub hl [1, 2, 3, 0] rfl)
def D_X7_readsRide_93 (σ : St) (v1 : Int32) (v2 : Int32) : Option (Int32 × St) := D_X7_readsRide_94 σ v1 v2 (0 : Int32)
set_option maxRecDepth 100000 in
set_option maxHeartbeats 4000000 in
theorem w_X7_readsRide_93 {p : Program} {l : Launch} {e : Env} {s : State} {m : MethodId} {args : Array Value} {below : List Frame} {meth : Method} {c : Code} (g : Gh) (q : Nat → Nat) (X : MX p s m args meth c cX7_readsRide 4 (some .boolean) RX7) {rr : (Int32 × St)} (σ : St)  (v1 : Int32) (v2 : Int32) (hD : D_X7_readsRide_93 σ v1 v2 = some rr) (H : Heap) (locs : List Loc) (ls : Array Slot) (I : IM g q s σ H locs) (hl : lv_has ls 4 [(0, .ref (q 0)), (1, .int v1), (2, .int v2)]) : W p l e (rmD 4) s m args below meth c H locs 0 0 (MQ below (QI g (eM g q) q 22 rr.1 rr.2 s.heap.size) args s 0 0 (AQ q 22 s.heap.size)) (F0 m 93 ls []) := by
  have hx := X.1
  have hb := X.2.1
  unfold D_X7_readsRide_93 at hD
  refine lv_iconst (v := 0) hx hb dX7_readsRide_93 (by decide) ?_
  exact w_X7_readsRide_94 g q X σ v1 v2 (0 : Int32) hD _ _ _ I (lv_sub hl [0, 1, 2] rfl)
def D_X7_readsRide_68 (σ : St) (v1 : Int32) (v2 : Int32) (t0 : Int32) : Option (Int32 × St) := if ((up2 σ 0 11 t0) 0 11) < 0 then D_X7_readsRide_93 (up2 σ 0 11 t0) v1 v2 else (D_X7_codeAt (up2 σ 0 11 t0) v1 v2).bind fun y48 => if y48 = (44 : Int32) then D_X7_readsRide_94 (up2 σ 0 11 t0) v1 v2 (1 : Int32) else D_X7_readsRide_93 (up2 σ 0 11 t0) v1 v2
set_option maxRecDepth 100000 in
set_option maxHeartbeats 4000000 in
theorem w_X7_readsRide_68 {p : Program} {l : Launch} {e : Env} {s : State} {m : MethodId} {args : Array Value} {below : List Frame} {meth : Method} {c : Code} (g : Gh) (q : Nat → Nat) (X : MX p s m args meth c cX7_readsRide 4 (some .boolean) RX7) {rr : (Int32 × St)} (σ : St)  (v1 : Int32) (v2 : Int32) (t0 : Int32) (hD : D_X7_readsRide_68 σ v1 v2 t0 = some rr) (H : Heap) (locs : List Loc) (ls : Array Slot) (I : IM g q s σ H locs) (hl : lv_has ls 4 [(0, .ref (q 0)), (1, .int v1), (2, .int v2)]) : W p l e (rmD 4) s m args below meth c H locs 0 0 (MQ below (QI g (eM g q) q 22 rr.1 rr.2 s.heap.size) args s 0 0 (AQ q 22 s.heap.size)) (F0 m 68 ls [.int t0, .ref (q 0)]) := by
  have hx := X.1
  have hb := X.2.1
  unfold D_X7_readsRide_68 at hD
  refine p_Model_readSeats X I fl_X7_119 dX7_readsRide_68 (fun H locs I => ?_)
  refine lv_aload_n hx hb dX7_readsRide_71 rfl (lv_at hl 0 rfl) ?_
  refine g_Model_readSeats X I fl_X7_119 dX7_readsRide_72 ?_
  refine lv_if_lt (tgt := 93) hx hb dX7_readsRide_75 (by decide) (fun hc44 => ?_) (fun hc44 => ?_)
  · have hD := ite_p hc44 hD
    exact w_X7_readsRide_93 g q X (up2 σ 0 11 t0) v1 v2 hD _ _ _ I (lv_sub hl [0, 1, 2] rfl)
  · have hD := ite_n hc44 hD
    refine lv_aload_n hx hb dX7_readsRide_78 rfl (lv_at hl 0 rfl) ?_
    refine lv_iload_n hx hb dX7_readsRide_79 rfl (lv_at hl 1 rfl) ?_
    refine lv_iload_n hx hb dX7_readsRide_80 rfl (lv_at hl 2 rfl) ?_
    obtain ⟨y48, hy48, hD⟩ := bd_s hD
    refine r_calli (r_runV (As := [.int v1, .int v2]) (rest := []) X I (c_X7_codeAt l g q _ (up2 σ 0 11 t0) v1 v2 hy48) kv_X7_codeAt ml_X7_101 rfl (by decide) (eM_Model g q _) ⟨Nat.le_of_ble_eq_true rfl, Nat.le_of_ble_eq_true rfl⟩ ⟨Nat.zero_le _, Nat.zero_le _⟩ rfl rfl hl.1 (Nat.le_of_ble_eq_true rfl) dX7_readsRide_81) I (fun H locs I => ?_)
    refine lv_bipush (v := 44) hx hb dX7_readsRide_84 (by decide) ?_
    refine lv_icmp_ne (tgt := 93) hx hb dX7_readsRide_86 (by decide) (fun hc50 => ?_) (fun hc50 => ?_)
    · have hD := ite_n hc50 hD
      exact w_X7_readsRide_93 g q X (up2 σ 0 11 t0) v1 v2 hD _ _ _ I (lv_sub hl [0, 1, 2] rfl)
    · have hD := ite_p hc50 hD
      refine lv_iconst (v := 1) hx hb dX7_readsRide_89 (by decide) ?_
      refine lv_goto (tgt := 94) hx hb dX7_readsRide_90 (by decide) ?_
      exact w_X7_readsRide_94 g q X (up2 σ 0 11 t0) v1 v2 (1 : Int32) hD _ _ _ I (lv_sub hl [0, 1, 2] rfl)
def D_X7_readsRide_46 (σ : St) (v1 : Int32) (v2 : Int32) (v3 : Int32) (t0 : Int32) (t1 : Int32) : Option (Int32 × St) := if v3 = 0 then D_X7_readsRide_68 (up2 σ 0 10 (t1 + t0)) v1 v2 (-9 : Int32) else (D_X7_figure (up2 σ 0 10 (t1 + t0)) v1 v2 (0 : Int32) (3 : Int32)).bind fun y39 => D_X7_readsRide_68 y39.2 v1 v2 y39.1
set_option maxRecDepth 100000 in
set_option maxHeartbeats 4000000 in
theorem w_X7_readsRide_46 {p : Program} {l : Launch} {e : Env} {s : State} {m : MethodId} {args : Array Value} {below : List Frame} {meth : Method} {c : Code} (g : Gh) (q : Nat → Nat) (X : MX p s m args meth c cX7_readsRide 4 (some .boolean) RX7) {rr : (Int32 × St)} (σ : St)  (v1 : Int32) (v2 : Int32) (v3 : Int32) (t0 : Int32) (t1 : Int32) (hD : D_X7_readsRide_46 σ v1 v2 v3 t0 t1 = some rr) (H : Heap) (locs : List Loc) (ls : Array Slot) (I : IM g q s σ H locs) (hl : lv_has ls 4 [(0, .ref (q 0)), (1, .int v1), (2, .int v2), (3, .int v3)]) : W p l e (rmD 4) s m args below meth c H locs 0 0 (MQ below (QI g (eM g q) q 22 rr.1 rr.2 s.heap.size) args s 0 0 (AQ q 22 s.heap.size)) (F0 m 46 ls [.int t0, .int t1, .ref (q 0)]) := by
  have hx := X.1
  have hb := X.2.1
  unfold D_X7_readsRide_46 at hD
  refine lv_iadd hx hb dX7_readsRide_46 ?_
  refine p_Model_readAt X I fl_X7_98 dX7_readsRide_47 (fun H locs I => ?_)
  refine lv_aload_n hx hb dX7_readsRide_50 rfl (lv_at hl 0 rfl) ?_
  refine lv_iload_n hx hb dX7_readsRide_51 rfl (lv_at hl 3 rfl) ?_
  refine lv_if_eq (tgt := 66) hx hb dX7_readsRide_52 (by decide) (fun hc32 => ?_) (fun hc32 => ?_)
  · have hD := ite_p hc32 hD
    refine lv_bipush (v := -9) hx hb dX7_readsRide_66 (by decide) ?_
    exact w_X7_readsRide_68 g q X (up2 σ 0 10 (t1 + t0)) v1 v2 (-9 : Int32) hD _ _ _ I (lv_sub hl [0, 1, 2] rfl)
  · have hD := ite_n hc32 hD
    refine lv_aload_n hx hb dX7_readsRide_55 rfl (lv_at hl 0 rfl) ?_
    refine lv_iload_n hx hb dX7_readsRide_56 rfl (lv_at hl 1 rfl) ?_
    refine lv_iload_n hx hb dX7_readsRide_57 rfl (lv_at hl 2 rfl) ?_
    refine lv_iconst (v := 0) hx hb dX7_readsRide_58 (by decide) ?_
    refine lv_iconst (v := 3) hx hb dX7_readsRide_59 (by decide) ?_
    obtain ⟨y39, hy39, hD⟩ := bd_s hD
    refine r_calli (r_runV (As := [.int v1, .int v2, .int (0 : Int32), .int (3 : Int32)]) (rest := [.ref (q 0)]) X I (c_X7_figure l g q _ (up2 σ 0 10 (t1 + t0)) v1 v2 (0 : Int32) (3 : Int32) hy39) kv_X7_figure ml_X7_105 rfl (by decide) (eM_Model g q _) ⟨Nat.le_of_ble_eq_true rfl, Nat.le_of_ble_eq_true rfl⟩ ⟨Nat.zero_le _, Nat.zero_le _⟩ rfl rfl hl.1 (Nat.le_of_ble_eq_true rfl) dX7_readsRide_60) I (fun H locs I => ?_)
    refine lv_goto (tgt := 68) hx hb dX7_readsRide_63 (by decide) ?_
    exact w_X7_readsRide_68 g q X y39.2 v1 v2 y39.1 hD _ _ _ I (lv_sub hl [0, 1, 2] rfl)
def D_X7_readsRide_31 (σ : St) (v1 : Int32) (v2 : Int32) (t0 : Int32) : Option (Int32 × St) := if t0 = 0 then D_X7_readsRide_46 σ v1 v2 t0 (0 : Int32) (σ 0 10) else D_X7_readsRide_46 σ v1 v2 t0 (1 : Int32) (σ 0 10)
set_option maxRecDepth 100000 in
set_option maxHeartbeats 4000000 in
theorem w_X7_readsRide_31 {p : Program} {l : Launch} {e : Env} {s : State} {m : MethodId} {args : Array Value} {below : List Frame} {meth : Method} {c : Code} (g : Gh) (q : Nat → Nat) (X : MX p s m args meth c cX7_readsRide 4 (some .boolean) RX7) {rr : (Int32 × St)} (σ : St)  (v1 : Int32) (v2 : Int32) (t0 : Int32) (hD : D_X7_readsRide_31 σ v1 v2 t0 = some rr) (H : Heap) (locs : List Loc) (ls : Array Slot) (I : IM g q s σ H locs) (hl : lv_has ls 4 [(0, .ref (q 0)), (1, .int v1), (2, .int v2)]) : W p l e (rmD 4) s m args below meth c H locs 0 0 (MQ below (QI g (eM g q) q 22 rr.1 rr.2 s.heap.size) args s 0 0 (AQ q 22 s.heap.size)) (F0 m 31 ls [.int t0]) := by
  have hx := X.1
  have hb := X.2.1
  unfold D_X7_readsRide_31 at hD
  refine lv_istore_n (lv' := [(3, .int t0), (0, .ref (q 0)), (1, .int v1), (2, .int v2)]) hx hb dX7_readsRide_31 rfl hl (by decide) rfl (fun ls hl => ?_)
  refine lv_aload_n hx hb dX7_readsRide_32 rfl (lv_at hl 1 rfl) ?_
  refine lv_dup hx hb dX7_readsRide_33 rfl ?_
  refine g_Model_readAt X I fl_X7_98 dX7_readsRide_34 ?_
  refine lv_iload_n hx hb dX7_readsRide_37 rfl (lv_at hl 0 rfl) ?_
  refine lv_if_eq (tgt := 45) hx hb dX7_readsRide_38 (by decide) (fun hc24 => ?_) (fun hc24 => ?_)
  · have hD := ite_p hc24 hD
    refine lv_iconst (v := 0) hx hb dX7_readsRide_45 (by decide) ?_
    exact w_X7_readsRide_46 g q X σ v1 v2 t0 (0 : Int32) (σ 0 10) hD _ _ _ I (lv_sub hl [1, 2, 3, 0] rfl)
  · have hD := ite_n hc24 hD
    refine lv_iconst (v := 1) hx hb dX7_readsRide_41 (by decide) ?_
    refine lv_goto (tgt := 46) hx hb dX7_readsRide_42 (by decide) ?_
    exact w_X7_readsRide_46 g q X σ v1 v2 t0 (1 : Int32) (σ 0 10) hD _ _ _ I (lv_sub hl [1, 2, 3, 0] rfl)
def D_X7_readsRide (σ : St) (p1 : Int32) (p2 : Int32) : Option (Int32 × St) := (D_X7_codeAt (up2 (up2 (up2 σ 0 10 (0 : Int32)) 0 12 (0 : Int32)) 0 13 (0 : Int32)) p1 p2).bind fun y13 => if y13 = (117 : Int32) then D_X7_readsRide_31 (up2 (up2 (up2 σ 0 10 (0 : Int32)) 0 12 (0 : Int32)) 0 13 (0 : Int32)) p1 p2 (1 : Int32) else D_X7_readsRide_31 (up2 (up2 (up2 σ 0 10 (0 : Int32)) 0 12 (0 : Int32)) 0 13 (0 : Int32)) p1 p2 (0 : Int32)
set_option maxRecDepth 100000 in
set_option maxHeartbeats 4000000 in
theorem c_X7_readsRide (l : Launch) (g : Gh) (q : Nat → Nat) (sz : Nat) (σ : St) (p1 : Int32) (p2 : Int32) {rr : (Int32 × St)} (hD : D_X7_readsRide σ p1 p2 = some rr) : Met l yX7_readsRide (wU yX7_readsRide cX7_readsRide 4 (some .boolean)) (rmD 4) (PQ g (eM g q) q 22 σ sz [.ref (q 0), .int p1, .int p2]) (QI g (eM g q) q 22 rr.1 rr.2 sz) 0 0 (AQ q 22 sz) := by
  refine met_of (Qc := QI g (eM g q) q 22 rr.1 rr.2) (by decide) (Nat.le_of_ble_eq_true rfl) ?_
  intro p e s m below meth c ls X I hl
  have hx := X.1
  have hb := X.2.1
  have hl : lv_has ls 4 [(0, .ref (q 0)), (1, .int p1), (2, .int p2)] := hl
  unfold D_X7_readsRide at hD
  refine lv_aload_n hx hb dX7_readsRide_0 rfl (lv_at hl 0 rfl) ?_
  refine lv_iconst (v := 0) hx hb dX7_readsRide_1 (by decide) ?_
  refine p_Model_readAt X I fl_X7_98 dX7_readsRide_2 (fun H locs I => ?_)
  refine lv_aload_n hx hb dX7_readsRide_5 rfl (lv_at hl 0 rfl) ?_
  refine lv_iconst (v := 0) hx hb dX7_readsRide_6 (by decide) ?_
  refine p_Model_readSections X I fl_X7_109 dX7_readsRide_7 (fun H locs I => ?_)
  refine lv_aload_n hx hb dX7_readsRide_10 rfl (lv_at hl 0 rfl) ?_
  refine lv_iconst (v := 0) hx hb dX7_readsRide_11 (by decide) ?_
  refine p_Model_readRiders X I fl_X7_112 dX7_readsRide_12 (fun H locs I => ?_)
  refine lv_aload_n hx hb dX7_readsRide_15 rfl (lv_at hl 0 rfl) ?_
  refine lv_iload_n hx hb dX7_readsRide_16 rfl (lv_at hl 1 rfl) ?_
  refine lv_iload_n hx hb dX7_readsRide_17 rfl (lv_at hl 2 rfl) ?_
  obtain ⟨y13, hy13, hD⟩ := bd_s hD
  refine r_calli (r_runV (As := [.int p1, .int p2]) (rest := []) X I (c_X7_codeAt l g q _ (up2 (up2 (up2 σ 0 10 (0 : Int32)) 0 12 (0 : Int32)) 0 13 (0 : Int32)) p1 p2 hy13) kv_X7_codeAt ml_X7_101 rfl (by decide) (eM_Model g q _) ⟨Nat.le_of_ble_eq_true rfl, Nat.le_of_ble_eq_true rfl⟩ ⟨Nat.zero_le _, Nat.zero_le _⟩ rfl rfl hl.1 (Nat.le_of_ble_eq_true rfl) dX7_readsRide_18) I (fun H locs I => ?_)
  refine lv_bipush (v := 117) hx hb dX7_readsRide_21 (by decide) ?_
  refine lv_icmp_ne (tgt := 30) hx hb dX7_readsRide_23 (by decide) (fun hc15 => ?_) (fun hc15 => ?_)
  · have hD := ite_n hc15 hD
    refine lv_iconst (v := 0) hx hb dX7_readsRide_30 (by decide) ?_
    exact w_X7_readsRide_31 g q X (up2 (up2 (up2 σ 0 10 (0 : Int32)) 0 12 (0 : Int32)) 0 13 (0 : Int32)) p1 p2 (0 : Int32) hD _ _ _ I (lv_sub hl [0, 1, 2] rfl)
  · have hD := ite_p hc15 hD
    refine lv_iconst (v := 1) hx hb dX7_readsRide_26 (by decide) ?_
    refine lv_goto (tgt := 31) hx hb dX7_readsRide_27 (by decide) ?_
    exact w_X7_readsRide_31 g q X (up2 (up2 (up2 σ 0 10 (0 : Int32)) 0 12 (0 : Int32)) 0 13 (0 : Int32)) p1 p2 (1 : Int32) hD _ _ _ I (lv_sub hl [0, 1, 2] rfl)

/-! YearDeckModel.isBeyond(IJI)Z -/
def D_X7_isBeyond (σ : St) (p0 : Int32) (p1 : Int64) (p3 : Int32) : Option Int32 := if p0 < 0 then some (1 : Int32) else if (lg_cmp p1 (0 : Int64)) < 0 then some (1 : Int32) else if (lg_cmp (p0.toInt64 + p1) p3.toInt64) ≤ 0 then some (0 : Int32) else some (1 : Int32)
set_option maxRecDepth 100000 in
set_option maxHeartbeats 4000000 in
theorem c_X7_isBeyond (l : Launch) (g : Gh) (q : Nat → Nat) (sz : Nat) (σ : St) (p0 : Int32) (p1 : Int64) (p3 : Int32) {rr : Int32} (hD : D_X7_isBeyond σ p0 p1 p3 = some rr) : Met l yX7_isBeyond (wU yX7_isBeyond cX7_isBeyond 4 (some .boolean)) (rmD 0) (PQ g (eM g q) q 22 σ sz [.int p0, .long p1, .int p3]) (QI g (eM g q) q 22 rr σ sz) 0 0 (AQ q 22 sz) := by
  refine met_of (Qc := QI g (eM g q) q 22 rr σ) (by decide) (Nat.le_of_ble_eq_true rfl) ?_
  intro p e s m below meth c ls X I hl
  have hx := X.1
  have hb := X.2.1
  have hl : lv_has ls 4 [(0, .int p0), (1, .long p1), (3, .int p3)] := hl
  unfold D_X7_isBeyond at hD
  refine lv_iload_n hx hb dX7_isBeyond_0 rfl (lv_at hl 0 rfl) ?_
  refine lv_if_lt (tgt := 20) hx hb dX7_isBeyond_1 (by decide) (fun hc2 => ?_) (fun hc2 => ?_)
  · have hD := ite_p hc2 hD
    refine lv_iconst (v := 1) hx hb dX7_isBeyond_20 (by decide) ?_
    refine lv_goto (tgt := 25) hx hb dX7_isBeyond_21 (by decide) ?_
    exact r_zret X I hD rfl dX7_isBeyond_25
  · have hD := ite_n hc2 hD
    refine lv_lload_n hx hb dX7_isBeyond_4 rfl (lv_at hl 1 rfl) ?_
    refine lv_lconst (v := 0) hx hb dX7_isBeyond_5 rfl ?_
    refine W.lcmp hx hb dX7_isBeyond_6 ?_
    refine lv_if_lt (tgt := 20) hx hb dX7_isBeyond_7 (by decide) (fun hc9 => ?_) (fun hc9 => ?_)
    · have hD := ite_p hc9 hD
      refine lv_iconst (v := 1) hx hb dX7_isBeyond_20 (by decide) ?_
      refine lv_goto (tgt := 25) hx hb dX7_isBeyond_21 (by decide) ?_
      exact r_zret X I hD rfl dX7_isBeyond_25
    · have hD := ite_n hc9 hD
      refine lv_iload_n hx hb dX7_isBeyond_10 rfl (lv_at hl 0 rfl) ?_
      refine lv_i2l hx hb dX7_isBeyond_11 rfl ?_
      refine lv_lload_n hx hb dX7_isBeyond_12 rfl (lv_at hl 1 rfl) ?_
      refine lv_ladd hx hb dX7_isBeyond_13 ?_
      refine lv_iload_n hx hb dX7_isBeyond_14 rfl (lv_at hl 2 rfl) ?_
      refine lv_i2l hx hb dX7_isBeyond_15 rfl ?_
      refine W.lcmp hx hb dX7_isBeyond_16 ?_
      refine lv_if_le (tgt := 24) hx hb dX7_isBeyond_17 (by decide) (fun hc20 => ?_) (fun hc20 => ?_)
      · have hD := ite_p hc20 hD
        refine lv_iconst (v := 0) hx hb dX7_isBeyond_24 (by decide) ?_
        exact r_zret X I hD rfl dX7_isBeyond_25
      · have hD := ite_n hc20 hD
        refine lv_iconst (v := 1) hx hb dX7_isBeyond_20 (by decide) ?_
        refine lv_goto (tgt := 25) hx hb dX7_isBeyond_21 (by decide) ?_
        exact r_zret X I hD rfl dX7_isBeyond_25

/-! YearDeckModel.cellsBarred(IIIJ)I -/
def D_X7_cellsBarred_25 (σ : St) (v1 : Int32) (v3 : Int32) (v4 : Int64) : Option (Int32 × St) := gd (inb v1 4) (if 0 ≤ (σ 18 v1.toNatClampNeg) then if 0 ≤ (lg_cmp v4 (0 : Int64)) then gd (inb v1 4) ((D_X7_isBeyond σ v3 v4 (σ 18 v1.toNatClampNeg)).bind fun y31 => if y31 = 0 then some ((0 : Int32), σ) else (D_X7_failed σ (3 : Int32)).bind fun y37 => some (y37.1, y37.2)) else (D_X7_failed σ (4 : Int32)).bind fun y42 => some (y42.1, y42.2) else (D_X7_failed σ (1 : Int32)).bind fun y46 => some (y46.1, y46.2))
set_option maxRecDepth 100000 in
set_option maxHeartbeats 4000000 in
theorem w_X7_cellsBarred_25 {p : Program} {l : Launch} {e : Env} {s : State} {m : MethodId} {args : Array Value} {below : List Frame} {meth : Method} {c : Code} (g : Gh) (q : Nat → Nat) (X : MX p s m args meth c cX7_cellsBarred 6 (some .int) RX7) {rr : (Int32 × St)} (σ : St)  (v1 : Int32) (v3 : Int32) (v4 : Int64) (hD : D_X7_cellsBarred_25 σ v1 v3 v4 = some rr) (H : Heap) (locs : List Loc) (ls : Array Slot) (I : IM g q s σ H locs) (hl : lv_has ls 6 [(0, .ref (q 0)), (1, .int v1), (3, .int v3), (4, .long v4)]) : W p l e (rmD 1) s m args below meth c H locs 0 0 (MQ below (QI g (eM g q) q 22 rr.1 rr.2 s.heap.size) args s 0 0 (AQ q 22 s.heap.size)) (F0 m 25 ls []) := by
  have hx := X.1
  have hb := X.2.1
  unfold D_X7_cellsBarred_25 at hD
  refine lv_aload_n hx hb dX7_cellsBarred_25 rfl (lv_at hl 0 rfl) ?_
  refine g_Model_sheetSize X I fl_X7_62 dX7_cellsBarred_26 ?_
  refine lv_iload_n hx hb dX7_cellsBarred_29 rfl (lv_at hl 1 rfl) ?_
  obtain ⟨hg19, hD⟩ := gd_s hD
  refine r_iald X I (by decide) ((eMa_18 g q) _) hg19 dX7_cellsBarred_30 ?_
  refine lv_if_ge (tgt := 40) hx hb dX7_cellsBarred_31 (by decide) (fun hc20 => ?_) (fun hc20 => ?_)
  · have hD := ite_p hc20 hD
    refine lv_lload hx hb dX7_cellsBarred_40 (lv_at hl 3 rfl) ?_
    refine lv_lconst (v := 0) hx hb dX7_cellsBarred_42 rfl ?_
    refine W.lcmp hx hb dX7_cellsBarred_43 ?_
    refine lv_if_ge (tgt := 53) hx hb dX7_cellsBarred_44 (by decide) (fun hc24 => ?_) (fun hc24 => ?_)
    · have hD := ite_p hc24 hD
      refine lv_iload_n hx hb dX7_cellsBarred_53 rfl (lv_at hl 2 rfl) ?_
      refine lv_lload hx hb dX7_cellsBarred_54 (lv_at hl 3 rfl) ?_
      refine lv_aload_n hx hb dX7_cellsBarred_56 rfl (lv_at hl 0 rfl) ?_
      refine g_Model_sheetSize X I fl_X7_62 dX7_cellsBarred_57 ?_
      refine lv_iload_n hx hb dX7_cellsBarred_60 rfl (lv_at hl 1 rfl) ?_
      obtain ⟨hg30, hD⟩ := gd_s hD
      refine r_iald X I (by decide) ((eMa_18 g q) _) hg30 dX7_cellsBarred_61 ?_
      obtain ⟨y31, hy31, hD⟩ := bd_s hD
      refine r_calli (r_runS (As := [.int v3, .long v4, .int (σ 18 v1.toNatClampNeg)]) (rest := []) X I (c_X7_isBeyond l g q _ σ v3 v4 (σ 18 v1.toNatClampNeg) hy31) ks_X7_isBeyond ml_X7_132 ⟨Nat.le_of_ble_eq_true rfl, Nat.le_of_ble_eq_true rfl⟩ ⟨Nat.zero_le _, Nat.zero_le _⟩ rfl rfl hl.1 (Nat.le_of_ble_eq_true rfl) dX7_cellsBarred_62) I (fun H locs I => ?_)
      refine lv_if_eq (tgt := 76) hx hb dX7_cellsBarred_65 (by decide) (fun hc32 => ?_) (fun hc32 => ?_)
      · have hD := ite_p hc32 hD
        refine lv_iconst (v := 0) hx hb dX7_cellsBarred_76 (by decide) ?_
        exact r_iret2 X I hD dX7_cellsBarred_77
      · have hD := ite_n hc32 hD
        refine lv_aload_n hx hb dX7_cellsBarred_68 rfl (lv_at hl 0 rfl) ?_
        refine lv_iconst (v := 3) hx hb dX7_cellsBarred_69 (by decide) ?_
        obtain ⟨y37, hy37, hD⟩ := bd_s hD
        refine r_calli (r_runV (As := [.int (3 : Int32)]) (rest := []) X I (c_X7_failed l g q _ σ (3 : Int32) hy37) kv_X7_failed ml_X7_129 rfl (by decide) (eM_Model g q _) ⟨Nat.le_of_ble_eq_true rfl, Nat.le_of_ble_eq_true rfl⟩ ⟨Nat.zero_le _, Nat.zero_le _⟩ rfl rfl hl.1 (Nat.le_of_ble_eq_true rfl) dX7_cellsBarred_70) I (fun H locs I => ?_)
        refine lv_goto (tgt := 77) hx hb dX7_cellsBarred_73 (by decide) ?_
        exact r_iret2 X I hD dX7_cellsBarred_77
    · have hD := ite_n hc24 hD
      refine lv_aload_n hx hb dX7_cellsBarred_47 rfl (lv_at hl 0 rfl) ?_
      refine lv_iconst (v := 4) hx hb dX7_cellsBarred_48 (by decide) ?_
      obtain ⟨y42, hy42, hD⟩ := bd_s hD
      refine r_calli (r_runV (As := [.int (4 : Int32)]) (rest := []) X I (c_X7_failed l g q _ σ (4 : Int32) hy42) kv_X7_failed ml_X7_129 rfl (by decide) (eM_Model g q _) ⟨Nat.le_of_ble_eq_true rfl, Nat.le_of_ble_eq_true rfl⟩ ⟨Nat.zero_le _, Nat.zero_le _⟩ rfl rfl hl.1 (Nat.le_of_ble_eq_true rfl) dX7_cellsBarred_49) I (fun H locs I => ?_)
      exact r_iret2 X I hD dX7_cellsBarred_52
  · have hD := ite_n hc20 hD
    refine lv_aload_n hx hb dX7_cellsBarred_34 rfl (lv_at hl 0 rfl) ?_
    refine lv_iconst (v := 1) hx hb dX7_cellsBarred_35 (by decide) ?_
    obtain ⟨y46, hy46, hD⟩ := bd_s hD
    refine r_calli (r_runV (As := [.int (1 : Int32)]) (rest := []) X I (c_X7_failed l g q _ σ (1 : Int32) hy46) kv_X7_failed ml_X7_129 rfl (by decide) (eM_Model g q _) ⟨Nat.le_of_ble_eq_true rfl, Nat.le_of_ble_eq_true rfl⟩ ⟨Nat.zero_le _, Nat.zero_le _⟩ rfl rfl hl.1 (Nat.le_of_ble_eq_true rfl) dX7_cellsBarred_36) I (fun H locs I => ?_)
    exact r_iret2 X I hD dX7_cellsBarred_39
def D_X7_cellsBarred (σ : St) (p1 : Int32) (p2 : Int32) (p3 : Int32) (p4 : Int64) : Option (Int32 × St) := gd (inb p1 4) (if (σ 18 p1.toNatClampNeg) < 0 then D_X7_cellsBarred_25 σ p1 p3 p4 else gd (inb p1 4) (if (σ 19 p1.toNatClampNeg) = p2 then D_X7_cellsBarred_25 σ p1 p3 p4 else (D_X7_failed σ (2 : Int32)).bind fun y14 => some (y14.1, y14.2)))
set_option maxRecDepth 100000 in
set_option maxHeartbeats 4000000 in
theorem c_X7_cellsBarred (l : Launch) (g : Gh) (q : Nat → Nat) (sz : Nat) (σ : St) (p1 : Int32) (p2 : Int32) (p3 : Int32) (p4 : Int64) {rr : (Int32 × St)} (hD : D_X7_cellsBarred σ p1 p2 p3 p4 = some rr) : Met l yX7_cellsBarred (wU yX7_cellsBarred cX7_cellsBarred 6 (some .int)) (rmD 1) (PQ g (eM g q) q 22 σ sz [.ref (q 0), .int p1, .int p2, .int p3, .long p4]) (QI g (eM g q) q 22 rr.1 rr.2 sz) 0 0 (AQ q 22 sz) := by
  refine met_of (Qc := QI g (eM g q) q 22 rr.1 rr.2) (by decide) (Nat.le_of_ble_eq_true rfl) ?_
  intro p e s m below meth c ls X I hl
  have hx := X.1
  have hb := X.2.1
  have hl : lv_has ls 6 [(0, .ref (q 0)), (1, .int p1), (2, .int p2), (3, .int p3), (4, .long p4)] := hl
  unfold D_X7_cellsBarred at hD
  refine lv_aload_n hx hb dX7_cellsBarred_0 rfl (lv_at hl 0 rfl) ?_
  refine g_Model_sheetSize X I fl_X7_62 dX7_cellsBarred_1 ?_
  refine lv_iload_n hx hb dX7_cellsBarred_4 rfl (lv_at hl 1 rfl) ?_
  obtain ⟨hg4, hD⟩ := gd_s hD
  refine r_iald X I (by decide) ((eMa_18 g q) _) hg4 dX7_cellsBarred_5 ?_
  refine lv_if_lt (tgt := 25) hx hb dX7_cellsBarred_6 (by decide) (fun hc5 => ?_) (fun hc5 => ?_)
  · have hD := ite_p hc5 hD
    exact w_X7_cellsBarred_25 g q X σ p1 p3 p4 hD _ _ _ I (lv_sub hl [0, 1, 3, 4] rfl)
  · have hD := ite_n hc5 hD
    refine lv_aload_n hx hb dX7_cellsBarred_9 rfl (lv_at hl 0 rfl) ?_
    refine g_Model_sheetLane X I fl_X7_65 dX7_cellsBarred_10 ?_
    refine lv_iload_n hx hb dX7_cellsBarred_13 rfl (lv_at hl 1 rfl) ?_
    obtain ⟨hg9, hD⟩ := gd_s hD
    refine r_iald X I (by decide) ((eMa_19 g q) _) hg9 dX7_cellsBarred_14 ?_
    refine lv_iload_n hx hb dX7_cellsBarred_15 rfl (lv_at hl 2 rfl) ?_
    refine lv_icmp_eq (tgt := 25) hx hb dX7_cellsBarred_16 (by decide) (fun hc11 => ?_) (fun hc11 => ?_)
    · have hD := ite_p hc11 hD
      exact w_X7_cellsBarred_25 g q X σ p1 p3 p4 hD _ _ _ I (lv_sub hl [0, 1, 3, 4] rfl)
    · have hD := ite_n hc11 hD
      refine lv_aload_n hx hb dX7_cellsBarred_19 rfl (lv_at hl 0 rfl) ?_
      refine lv_iconst (v := 2) hx hb dX7_cellsBarred_20 (by decide) ?_
      obtain ⟨y14, hy14, hD⟩ := bd_s hD
      refine r_calli (r_runV (As := [.int (2 : Int32)]) (rest := []) X I (c_X7_failed l g q _ σ (2 : Int32) hy14) kv_X7_failed ml_X7_129 rfl (by decide) (eM_Model g q _) ⟨Nat.le_of_ble_eq_true rfl, Nat.le_of_ble_eq_true rfl⟩ ⟨Nat.zero_le _, Nat.zero_le _⟩ rfl rfl hl.1 (Nat.le_of_ble_eq_true rfl) dX7_cellsBarred_21) I (fun H locs I => ?_)
      exact r_iret2 X I hD dX7_cellsBarred_24

/-! YearDeckModel.noSheet(I)Z -/
def D_X7_noSheet (σ : St) (p0 : Int32) : Option Int32 := (D_X7_in σ p0.toInt64 (0 : Int64) (3 : Int64)).bind fun y5 => if y5 = 0 then some (1 : Int32) else some (0 : Int32)
set_option maxRecDepth 100000 in
set_option maxHeartbeats 4000000 in
theorem c_X7_noSheet (l : Launch) (g : Gh) (q : Nat → Nat) (sz : Nat) (σ : St) (p0 : Int32) {rr : Int32} (hD : D_X7_noSheet σ p0 = some rr) : Met l yX7_noSheet (wU yX7_noSheet cX7_noSheet 1 (some .boolean)) (rmD 1) (PQ g (eM g q) q 22 σ sz [.int p0]) (QI g (eM g q) q 22 rr σ sz) 0 0 (AQ q 22 sz) := by
  refine met_of (Qc := QI g (eM g q) q 22 rr σ) (by decide) (Nat.le_of_ble_eq_true rfl) ?_
  intro p e s m below meth c ls X I hl
  have hx := X.1
  have hb := X.2.1
  have hl : lv_has ls 1 [(0, .int p0)] := hl
  unfold D_X7_noSheet at hD
  refine lv_iload_n hx hb dX7_noSheet_0 rfl (lv_at hl 0 rfl) ?_
  refine lv_i2l hx hb dX7_noSheet_1 rfl ?_
  refine lv_lconst (v := 0) hx hb dX7_noSheet_2 rfl ?_
  refine lv_ldc2 (v := 3) hx hb X.2.2.2.2.1 (X.2.2.2.2.2.1 _ cl_X7_164) dX7_noSheet_3 ?_
  obtain ⟨y5, hy5, hD⟩ := bd_s hD
  refine r_calli (r_runS (As := [.long p0.toInt64, .long (0 : Int64), .long (3 : Int64)]) (rest := []) X I (c_X7_in l g q _ σ p0.toInt64 (0 : Int64) (3 : Int64) hy5) ks_X7_in ml_X7_87 ⟨Nat.le_of_ble_eq_true rfl, Nat.le_of_ble_eq_true rfl⟩ ⟨Nat.zero_le _, Nat.zero_le _⟩ rfl rfl hl.1 (Nat.le_of_ble_eq_true rfl) dX7_noSheet_6) I (fun H locs I => ?_)
  refine lv_if_ne (tgt := 16) hx hb dX7_noSheet_9 (by decide) (fun hc6 => ?_) (fun hc6 => ?_)
  · have hD := ite_n hc6 hD
    refine lv_iconst (v := 0) hx hb dX7_noSheet_16 (by decide) ?_
    exact r_zret X I hD rfl dX7_noSheet_17
  · have hD := ite_p hc6 hD
    refine lv_iconst (v := 1) hx hb dX7_noSheet_12 (by decide) ?_
    refine lv_goto (tgt := 17) hx hb dX7_noSheet_13 (by decide) ?_
    exact r_zret X I hD rfl dX7_noSheet_17
