/-! YearDeck$Load.of(I)I -/
def D_X0_of_4b (σ : St) (rc4 : Int32 → Int32 → Option Int32) (v0 : Int32) (v1 : Int32) (v2 : Int32) : Option Int32 := if (5 : Int32) ≤ v2 then some v1 else rc4 (v1 ||| (((v0 >>> (v2 &&& 31)) &&& (1 : Int32)) <<< (((4 : Int32) * v2) &&& 31))) (v2 + (1 : Int32))
set_option maxRecDepth 100000 in
set_option maxHeartbeats 4000000 in
theorem w_X0_of_4b {p : Program} {l : Launch} {e : Env} {s : State} {m : MethodId} {args : Array Value} {below : List Frame} {meth : Method} {c : Code} (g : Gh) (q : Nat → Nat) (X : MX p s m args meth c cX0_of 3 (some .int) RX0) {rr : Int32} (σ : St)  (v0 : Int32) (v1 : Int32) (v2 : Int32) (rc4 : Int32 → Int32 → Option Int32) (hrc4 : ∀ (v1' : Int32) (v2' : Int32), rc4 v1' v2' = some rr → ∀ (H : Heap) (locs : List Loc) (ls : Array Slot), IC g q s σ H locs → lv_has ls 3 [(0, .int v0), (1, .int v1'), (2, .int v2')] → W p l e (rmD 0) s m args below meth c H locs 0 0 (MQ below (QI g (eC g q) q 23 rr σ s.heap.size) args s 0 0 (AQ q 23 s.heap.size)) (F0 m 4 ls [])) (hD : D_X0_of_4b σ rc4 v0 v1 v2 = some rr) (H : Heap) (locs : List Loc) (ls : Array Slot) (I : IC g q s σ H locs) (hl : lv_has ls 3 [(0, .int v0), (1, .int v1), (2, .int v2)]) : W p l e (rmD 0) s m args below meth c H locs 0 0 (MQ below (QI g (eC g q) q 23 rr σ s.heap.size) args s 0 0 (AQ q 23 s.heap.size)) (F0 m 4 ls []) := by
  have hx := X.1
  have hb := X.2.1
  unfold D_X0_of_4b at hD
  refine lv_iload_n hx hb dX0_of_4 rfl (lv_at hl 2 rfl) ?_
  refine lv_iconst (v := 5) hx hb dX0_of_5 (by decide) ?_
  refine lv_icmp_ge (tgt := 27) hx hb dX0_of_6 (by decide) (fun hc7 => ?_) (fun hc7 => ?_)
  · have hD := ite_p hc7 hD
    refine lv_iload_n hx hb dX0_of_27 rfl (lv_at hl 1 rfl) ?_
    exact r_iret X I hD dX0_of_28
  · have hD := ite_n hc7 hD
    refine lv_iload_n hx hb dX0_of_9 rfl (lv_at hl 1 rfl) ?_
    refine lv_iload_n hx hb dX0_of_10 rfl (lv_at hl 0 rfl) ?_
    refine lv_iload_n hx hb dX0_of_11 rfl (lv_at hl 2 rfl) ?_
    refine lv_ishr hx hb dX0_of_12 ?_
    refine lv_iconst (v := 1) hx hb dX0_of_13 (by decide) ?_
    refine lv_iand hx hb dX0_of_14 ?_
    refine lv_iconst (v := 4) hx hb dX0_of_15 (by decide) ?_
    refine lv_iload_n hx hb dX0_of_16 rfl (lv_at hl 2 rfl) ?_
    refine lv_imul hx hb dX0_of_17 ?_
    refine lv_ishl hx hb dX0_of_18 ?_
    refine lv_ior hx hb dX0_of_19 ?_
    refine lv_istore_n (lv' := [(1, .int (v1 ||| (((v0 >>> (v2 &&& 31)) &&& (1 : Int32)) <<< (((4 : Int32) * v2) &&& 31)))), (0, .int v0), (2, .int v2)]) hx hb dX0_of_20 rfl hl (by decide) rfl (fun ls hl => ?_)
    refine lv_iinc (v := v2 + (1 : Int32)) (lv' := [(2, .int (v2 + (1 : Int32))), (1, .int (v1 ||| (((v0 >>> (v2 &&& 31)) &&& (1 : Int32)) <<< (((4 : Int32) * v2) &&& 31)))), (0, .int v0)]) hx hb dX0_of_21 hl (k := 2) rfl rfl (by decide) rfl (fun ls hl => ?_)
    refine lv_goto (tgt := 4) hx hb dX0_of_24 (by decide) ?_
    exact hrc4 (v1 ||| (((v0 >>> (v2 &&& 31)) &&& (1 : Int32)) <<< (((4 : Int32) * v2) &&& 31))) (v2 + (1 : Int32)) hD _ _ _ I (lv_sub hl [2, 1, 0] rfl)
def D_X0_of_4 (σ : St) (v0 : Int32) : Nat → Int32 → Int32 → Option Int32
  | 0 => fun _ _ => none
  | n + 1 => fun v1 v2 => D_X0_of_4b σ (D_X0_of_4 σ v0 n) v0 v1 v2
set_option maxRecDepth 100000 in
set_option maxHeartbeats 4000000 in
theorem w_X0_of_4 {p : Program} {l : Launch} {e : Env} {s : State} {m : MethodId} {args : Array Value} {below : List Frame} {meth : Method} {c : Code} (g : Gh) (q : Nat → Nat) (X : MX p s m args meth c cX0_of 3 (some .int) RX0) {rr : Int32} (σ : St)  (v0 : Int32) : ∀ (n : Nat) (v1 : Int32) (v2 : Int32), D_X0_of_4 σ v0 n v1 v2 = some rr → ∀ (H : Heap) (locs : List Loc) (ls : Array Slot), IC g q s σ H locs → lv_has ls 3 [(0, .int v0), (1, .int v1), (2, .int v2)] → W p l e (rmD 0) s m args below meth c H locs 0 0 (MQ below (QI g (eC g q) q 23 rr σ s.heap.size) args s 0 0 (AQ q 23 s.heap.size)) (F0 m 4 ls []) := by
  intro n
  induction n with
  | zero =>
    intro v1 v2 hD H locs ls I hl
    cases hD
  | succ n ih =>
    intro v1 v2 hD H locs ls I hl
    exact w_X0_of_4b g q X σ v0 v1 v2 _ ih hD H locs ls I hl
def D_X0_of (σ : St) (p0 : Int32) : Option Int32 := D_X0_of_4 σ p0 FU (0 : Int32) (0 : Int32)
set_option maxRecDepth 100000 in
set_option maxHeartbeats 4000000 in
theorem c_X0_of (l : Launch) (g : Gh) (q : Nat → Nat) (sz : Nat) (σ : St) (p0 : Int32) {rr : Int32} (hD : D_X0_of σ p0 = some rr) : Met l yX0_of (wU yX0_of cX0_of 3 (some .int)) (rmD 0) (PQ g (eC g q) q 23 σ sz [.int p0]) (QI g (eC g q) q 23 rr σ sz) 0 0 (AQ q 23 sz) := by
  refine met_of (Qc := QI g (eC g q) q 23 rr σ) (by decide) (Nat.le_of_ble_eq_true rfl) ?_
  intro p e s m below meth c ls X I hl
  have hx := X.1
  have hb := X.2.1
  have hl : lv_has ls 3 [(0, .int p0)] := hl
  unfold D_X0_of at hD
  refine lv_iconst (v := 0) hx hb dX0_of_0 (by decide) ?_
  refine lv_istore_n (lv' := [(1, .int (0 : Int32)), (0, .int p0)]) hx hb dX0_of_1 rfl hl (by decide) rfl (fun ls hl => ?_)
  refine lv_iconst (v := 0) hx hb dX0_of_2 (by decide) ?_
  refine lv_istore_n (lv' := [(2, .int (0 : Int32)), (1, .int (0 : Int32)), (0, .int p0)]) hx hb dX0_of_3 rfl hl (by decide) rfl (fun ls hl => ?_)
  exact w_X0_of_4 g q X σ p0 FU (0 : Int32) (0 : Int32) hD _ _ _ I (lv_sub hl [2, 1, 0] rfl)

/-! YearDeck$Load.on(II)I -/
def D_X0_on (σ : St) (p0 : Int32) (p1 : Int32) : Option Int32 := some ((p0 >>> (((4 : Int32) * p1) &&& 31)) &&& (15 : Int32))
set_option maxRecDepth 100000 in
set_option maxHeartbeats 4000000 in
theorem c_X0_on (l : Launch) (g : Gh) (q : Nat → Nat) (sz : Nat) (σ : St) (p0 : Int32) (p1 : Int32) {rr : Int32} (hD : D_X0_on σ p0 p1 = some rr) : Met l yX0_on (wU yX0_on cX0_on 2 (some .int)) (rmD 0) (PQ g (eC g q) q 23 σ sz [.int p0, .int p1]) (QI g (eC g q) q 23 rr σ sz) 0 0 (AQ q 23 sz) := by
  refine met_of (Qc := QI g (eC g q) q 23 rr σ) (by decide) (Nat.le_of_ble_eq_true rfl) ?_
  intro p e s m below meth c ls X I hl
  have hx := X.1
  have hb := X.2.1
  have hl : lv_has ls 2 [(0, .int p0), (1, .int p1)] := hl
  unfold D_X0_on at hD
  refine lv_iload_n hx hb dX0_on_0 rfl (lv_at hl 0 rfl) ?_
  refine lv_iconst (v := 4) hx hb dX0_on_1 (by decide) ?_
  refine lv_iload_n hx hb dX0_on_2 rfl (lv_at hl 1 rfl) ?_
  refine lv_imul hx hb dX0_on_3 ?_
  refine lv_ishr hx hb dX0_on_4 ?_
  refine lv_bipush (v := 15) hx hb dX0_on_5 (by decide) ?_
  refine lv_iand hx hb dX0_on_7 ?_
  exact r_iret X I hD dX0_on_8

/-! YearDeck$Sheet.hasCell(I)Z -/
def D_X5_hasCell (σ : St) (p0 : Nat) (p1 : Int32) : Option Int32 := if p1 < 0 then some (0 : Int32) else if (σ p0 2) ≤ p1 then some (0 : Int32) else some (1 : Int32)
set_option maxRecDepth 100000 in
set_option maxHeartbeats 4000000 in
theorem c_X5_hasCell (l : Launch) (g : Gh) (q : Nat → Nat) (sz : Nat) (σ : St) (p0 : Nat) (p1 : Int32) (kp0 : kSh p0) {rr : Int32} (hD : D_X5_hasCell σ p0 p1 = some rr) : Met l yX5_hasCell (wU yX5_hasCell cX5_hasCell 2 (some .boolean)) (rmD 0) (PQ g (eC g q) q 23 σ sz [.ref (q p0), .int p1]) (QI g (eC g q) q 23 rr σ sz) 0 0 (AQ q 23 sz) := by
  refine met_of (Qc := QI g (eC g q) q 23 rr σ) (by decide) (Nat.le_of_ble_eq_true rfl) ?_
  intro p e s m below meth c ls X I hl
  have hx := X.1
  have hb := X.2.1
  have hl : lv_has ls 2 [(0, .ref (q p0)), (1, .int p1)] := hl
  unfold D_X5_hasCell at hD
  refine lv_iload_n hx hb dX5_hasCell_0 rfl (lv_at hl 1 rfl) ?_
  refine lv_if_lt (tgt := 16) hx hb dX5_hasCell_1 (by decide) (fun hc2 => ?_) (fun hc2 => ?_)
  · have hD := ite_p hc2 hD
    refine lv_iconst (v := 0) hx hb dX5_hasCell_16 (by decide) ?_
    exact r_zret X I hD rfl dX5_hasCell_17
  · have hD := ite_n hc2 hD
    refine lv_iload_n hx hb dX5_hasCell_4 rfl (lv_at hl 1 rfl) ?_
    refine lv_aload_n hx hb dX5_hasCell_5 rfl (lv_at hl 0 rfl) ?_
    refine g_Sheet_length X I kp0 fl_X5_19 dX5_hasCell_6 ?_
    refine lv_icmp_ge (tgt := 16) hx hb dX5_hasCell_9 (by decide) (fun hc8 => ?_) (fun hc8 => ?_)
    · have hD := ite_p hc8 hD
      refine lv_iconst (v := 0) hx hb dX5_hasCell_16 (by decide) ?_
      exact r_zret X I hD rfl dX5_hasCell_17
    · have hD := ite_n hc8 hD
      refine lv_iconst (v := 1) hx hb dX5_hasCell_12 (by decide) ?_
      refine lv_goto (tgt := 17) hx hb dX5_hasCell_13 (by decide) ?_
      exact r_zret X I hD rfl dX5_hasCell_17

/-! YearDeck$Sheet.at(I)I -/
def D_X5_at (σ : St) (p0 : Nat) (p1 : Int32) : Option Int32 := (D_X5_hasCell σ p0 p1).bind fun y3 => if y3 = 0 then some (0 : Int32) else gd (inb p1 60) (some (σ (p0 + 4) p1.toNatClampNeg))
set_option maxRecDepth 100000 in
set_option maxHeartbeats 4000000 in
theorem c_X5_at (l : Launch) (g : Gh) (q : Nat → Nat) (sz : Nat) (σ : St) (p0 : Nat) (p1 : Int32) (kp0 : kSh p0) {rr : Int32} (hD : D_X5_at σ p0 p1 = some rr) : Met l yX5_at (wU yX5_at cX5_at 2 (some .int)) (rmD 1) (PQ g (eC g q) q 23 σ sz [.ref (q p0), .int p1]) (QI g (eC g q) q 23 rr σ sz) 0 0 (AQ q 23 sz) := by
  refine met_of (Qc := QI g (eC g q) q 23 rr σ) (by decide) (Nat.le_of_ble_eq_true rfl) ?_
  intro p e s m below meth c ls X I hl
  have hx := X.1
  have hb := X.2.1
  have hl : lv_has ls 2 [(0, .ref (q p0)), (1, .int p1)] := hl
  unfold D_X5_at at hD
  refine lv_aload_n hx hb dX5_at_0 rfl (lv_at hl 0 rfl) ?_
  refine lv_iload_n hx hb dX5_at_1 rfl (lv_at hl 1 rfl) ?_
  obtain ⟨y3, hy3, hD⟩ := bd_s hD
  refine r_calli (r_runV (As := [.int p1]) (rest := []) X I (c_X5_hasCell l g q _ σ p0 p1 kp0 hy3) kv_X5_hasCell ml_X5_22 rfl (kSh_lt kp0) (eC_Sheet g q _ kp0) ⟨Nat.le_of_ble_eq_true rfl, Nat.le_of_ble_eq_true rfl⟩ ⟨Nat.zero_le _, Nat.zero_le _⟩ rfl rfl hl.1 (Nat.le_of_ble_eq_true rfl) dX5_at_2) I (fun H locs I => ?_)
  refine lv_if_eq (tgt := 17) hx hb dX5_at_5 (by decide) (fun hc4 => ?_) (fun hc4 => ?_)
  · have hD := ite_p hc4 hD
    refine lv_iconst (v := 0) hx hb dX5_at_17 (by decide) ?_
    exact r_iret X I hD dX5_at_18
  · have hD := ite_n hc4 hD
    refine lv_aload_n hx hb dX5_at_8 rfl (lv_at hl 0 rfl) ?_
    refine g_Sheet_cells X I kp0 fl_X5_9 dX5_at_9 ?_
    refine lv_iload_n hx hb dX5_at_12 rfl (lv_at hl 1 rfl) ?_
    obtain ⟨hg10, hD⟩ := gd_s hD
    refine r_iald X I (kSh_lt4 kp0) ((eC_cells g q kp0) _) hg10 dX5_at_13 ?_
    refine lv_goto (tgt := 18) hx hb dX5_at_14 (by decide) ?_
    exact r_iret X I hD dX5_at_18

/-! java/lang/Integer.bitCount(I)I -/
def D_J6_bitCount_0f7a4 (σ : St) (p0 : Int32) : Option Int32 := some ((((((((p0 - (((p0.toUInt32 >>> ((1 : Int32).toUInt32 &&& Int32.toUInt32 31)).toInt32) &&& (1431655765 : Int32))) &&& (858993459 : Int32)) + ((((p0 - (((p0.toUInt32 >>> ((1 : Int32).toUInt32 &&& Int32.toUInt32 31)).toInt32) &&& (1431655765 : Int32))).toUInt32 >>> ((2 : Int32).toUInt32 &&& Int32.toUInt32 31)).toInt32) &&& (858993459 : Int32))) + (((((p0 - (((p0.toUInt32 >>> ((1 : Int32).toUInt32 &&& Int32.toUInt32 31)).toInt32) &&& (1431655765 : Int32))) &&& (858993459 : Int32)) + ((((p0 - (((p0.toUInt32 >>> ((1 : Int32).toUInt32 &&& Int32.toUInt32 31)).toInt32) &&& (1431655765 : Int32))).toUInt32 >>> ((2 : Int32).toUInt32 &&& Int32.toUInt32 31)).toInt32) &&& (858993459 : Int32))).toUInt32 >>> ((4 : Int32).toUInt32 &&& Int32.toUInt32 31)).toInt32)) &&& (252645135 : Int32)) + (((((((p0 - (((p0.toUInt32 >>> ((1 : Int32).toUInt32 &&& Int32.toUInt32 31)).toInt32) &&& (1431655765 : Int32))) &&& (858993459 : Int32)) + ((((p0 - (((p0.toUInt32 >>> ((1 : Int32).toUInt32 &&& Int32.toUInt32 31)).toInt32) &&& (1431655765 : Int32))).toUInt32 >>> ((2 : Int32).toUInt32 &&& Int32.toUInt32 31)).toInt32) &&& (858993459 : Int32))) + (((((p0 - (((p0.toUInt32 >>> ((1 : Int32).toUInt32 &&& Int32.toUInt32 31)).toInt32) &&& (1431655765 : Int32))) &&& (858993459 : Int32)) + ((((p0 - (((p0.toUInt32 >>> ((1 : Int32).toUInt32 &&& Int32.toUInt32 31)).toInt32) &&& (1431655765 : Int32))).toUInt32 >>> ((2 : Int32).toUInt32 &&& Int32.toUInt32 31)).toInt32) &&& (858993459 : Int32))).toUInt32 >>> ((4 : Int32).toUInt32 &&& Int32.toUInt32 31)).toInt32)) &&& (252645135 : Int32)).toUInt32 >>> ((8 : Int32).toUInt32 &&& Int32.toUInt32 31)).toInt32)) + ((((((((p0 - (((p0.toUInt32 >>> ((1 : Int32).toUInt32 &&& Int32.toUInt32 31)).toInt32) &&& (1431655765 : Int32))) &&& (858993459 : Int32)) + ((((p0 - (((p0.toUInt32 >>> ((1 : Int32).toUInt32 &&& Int32.toUInt32 31)).toInt32) &&& (1431655765 : Int32))).toUInt32 >>> ((2 : Int32).toUInt32 &&& Int32.toUInt32 31)).toInt32) &&& (858993459 : Int32))) + (((((p0 - (((p0.toUInt32 >>> ((1 : Int32).toUInt32 &&& Int32.toUInt32 31)).toInt32) &&& (1431655765 : Int32))) &&& (858993459 : Int32)) + ((((p0 - (((p0.toUInt32 >>> ((1 : Int32).toUInt32 &&& Int32.toUInt32 31)).toInt32) &&& (1431655765 : Int32))).toUInt32 >>> ((2 : Int32).toUInt32 &&& Int32.toUInt32 31)).toInt32) &&& (858993459 : Int32))).toUInt32 >>> ((4 : Int32).toUInt32 &&& Int32.toUInt32 31)).toInt32)) &&& (252645135 : Int32)) + (((((((p0 - (((p0.toUInt32 >>> ((1 : Int32).toUInt32 &&& Int32.toUInt32 31)).toInt32) &&& (1431655765 : Int32))) &&& (858993459 : Int32)) + ((((p0 - (((p0.toUInt32 >>> ((1 : Int32).toUInt32 &&& Int32.toUInt32 31)).toInt32) &&& (1431655765 : Int32))).toUInt32 >>> ((2 : Int32).toUInt32 &&& Int32.toUInt32 31)).toInt32) &&& (858993459 : Int32))) + (((((p0 - (((p0.toUInt32 >>> ((1 : Int32).toUInt32 &&& Int32.toUInt32 31)).toInt32) &&& (1431655765 : Int32))) &&& (858993459 : Int32)) + ((((p0 - (((p0.toUInt32 >>> ((1 : Int32).toUInt32 &&& Int32.toUInt32 31)).toInt32) &&& (1431655765 : Int32))).toUInt32 >>> ((2 : Int32).toUInt32 &&& Int32.toUInt32 31)).toInt32) &&& (858993459 : Int32))).toUInt32 >>> ((4 : Int32).toUInt32 &&& Int32.toUInt32 31)).toInt32)) &&& (252645135 : Int32)).toUInt32 >>> ((8 : Int32).toUInt32 &&& Int32.toUInt32 31)).toInt32)).toUInt32 >>> ((16 : Int32).toUInt32 &&& Int32.toUInt32 31)).toInt32)) &&& (63 : Int32))
set_option maxRecDepth 100000 in
set_option maxHeartbeats 4000000 in
theorem c_J6_bitCount_0f7a4 (l : Launch) (g : Gh) (q : Nat → Nat) (sz : Nat) (σ : St) (p0 : Int32) {rr : Int32} (hD : D_J6_bitCount_0f7a4 σ p0 = some rr) : Met l yJ6_bitCount_0f7a4 (wU yJ6_bitCount_0f7a4 cJ6_bitCount_0f7a4 1 (some .int)) (rmD 0) (PQ g (eC g q) q 23 σ sz [.int p0]) (QI g (eC g q) q 23 rr σ sz) 0 0 (AQ q 23 sz) := by
  refine met_of (Qc := QI g (eC g q) q 23 rr σ) (by decide) (Nat.le_of_ble_eq_true rfl) ?_
  intro p e s m below meth c ls X I hl
  have hx := X.1
  have hb := X.2.1
  have hl : lv_has ls 1 [(0, .int p0)] := hl
  unfold D_J6_bitCount_0f7a4 at hD
  refine lv_iload_n hx hb dJ6_bitCount_0f7a4_0 rfl (lv_at hl 0 rfl) ?_
  refine lv_iload_n hx hb dJ6_bitCount_0f7a4_1 rfl (lv_at hl 0 rfl) ?_
  refine lv_iconst (v := 1) hx hb dJ6_bitCount_0f7a4_2 (by decide) ?_
  refine lv_iushr hx hb dJ6_bitCount_0f7a4_3 rfl ?_
  refine lv_ldcw (v := 1431655765) hx hb X.2.2.2.2.1 (X.2.2.2.2.2.1 _ cs_J6_265) dJ6_bitCount_0f7a4_4 ?_
  refine lv_iand hx hb dJ6_bitCount_0f7a4_7 ?_
  refine lv_isub hx hb dJ6_bitCount_0f7a4_8 ?_
  refine lv_istore_n (lv' := [(0, .int (p0 - (((p0.toUInt32 >>> ((1 : Int32).toUInt32 &&& Int32.toUInt32 31)).toInt32) &&& (1431655765 : Int32))))]) hx hb dJ6_bitCount_0f7a4_9 rfl hl (by decide) rfl (fun ls hl => ?_)
  refine lv_iload_n hx hb dJ6_bitCount_0f7a4_10 rfl (lv_at hl 0 rfl) ?_
  refine lv_ldcw (v := 858993459) hx hb X.2.2.2.2.1 (X.2.2.2.2.2.1 _ cs_J6_266) dJ6_bitCount_0f7a4_11 ?_
  refine lv_iand hx hb dJ6_bitCount_0f7a4_14 ?_
  refine lv_iload_n hx hb dJ6_bitCount_0f7a4_15 rfl (lv_at hl 0 rfl) ?_
  refine lv_iconst (v := 2) hx hb dJ6_bitCount_0f7a4_16 (by decide) ?_
  refine lv_iushr hx hb dJ6_bitCount_0f7a4_17 rfl ?_
  refine lv_ldcw (v := 858993459) hx hb X.2.2.2.2.1 (X.2.2.2.2.2.1 _ cs_J6_266) dJ6_bitCount_0f7a4_18 ?_
  refine lv_iand hx hb dJ6_bitCount_0f7a4_21 ?_
  refine lv_iadd hx hb dJ6_bitCount_0f7a4_22 ?_
  refine lv_istore_n (lv' := [(0, .int (((p0 - (((p0.toUInt32 >>> ((1 : Int32).toUInt32 &&& Int32.toUInt32 31)).toInt32) &&& (1431655765 : Int32))) &&& (858993459 : Int32)) + ((((p0 - (((p0.toUInt32 >>> ((1 : Int32).toUInt32 &&& Int32.toUInt32 31)).toInt32) &&& (1431655765 : Int32))).toUInt32 >>> ((2 : Int32).toUInt32 &&& Int32.toUInt32 31)).toInt32) &&& (858993459 : Int32))))]) hx hb dJ6_bitCount_0f7a4_23 rfl hl (by decide) rfl (fun ls hl => ?_)
  refine lv_iload_n hx hb dJ6_bitCount_0f7a4_24 rfl (lv_at hl 0 rfl) ?_
  refine lv_iload_n hx hb dJ6_bitCount_0f7a4_25 rfl (lv_at hl 0 rfl) ?_
  refine lv_iconst (v := 4) hx hb dJ6_bitCount_0f7a4_26 (by decide) ?_
  refine lv_iushr hx hb dJ6_bitCount_0f7a4_27 rfl ?_
  refine lv_iadd hx hb dJ6_bitCount_0f7a4_28 ?_
  refine lv_ldcw (v := 252645135) hx hb X.2.2.2.2.1 (X.2.2.2.2.2.1 _ cs_J6_267) dJ6_bitCount_0f7a4_29 ?_
  refine lv_iand hx hb dJ6_bitCount_0f7a4_32 ?_
  refine lv_istore_n (lv' := [(0, .int (((((p0 - (((p0.toUInt32 >>> ((1 : Int32).toUInt32 &&& Int32.toUInt32 31)).toInt32) &&& (1431655765 : Int32))) &&& (858993459 : Int32)) + ((((p0 - (((p0.toUInt32 >>> ((1 : Int32).toUInt32 &&& Int32.toUInt32 31)).toInt32) &&& (1431655765 : Int32))).toUInt32 >>> ((2 : Int32).toUInt32 &&& Int32.toUInt32 31)).toInt32) &&& (858993459 : Int32))) + (((((p0 - (((p0.toUInt32 >>> ((1 : Int32).toUInt32 &&& Int32.toUInt32 31)).toInt32) &&& (1431655765 : Int32))) &&& (858993459 : Int32)) + ((((p0 - (((p0.toUInt32 >>> ((1 : Int32).toUInt32 &&& Int32.toUInt32 31)).toInt32) &&& (1431655765 : Int32))).toUInt32 >>> ((2 : Int32).toUInt32 &&& Int32.toUInt32 31)).toInt32) &&& (858993459 : Int32))).toUInt32 >>> ((4 : Int32).toUInt32 &&& Int32.toUInt32 31)).toInt32)) &&& (252645135 : Int32)))]) hx hb dJ6_bitCount_0f7a4_33 rfl hl (by decide) rfl (fun ls hl => ?_)
  refine lv_iload_n hx hb dJ6_bitCount_0f7a4_34 rfl (lv_at hl 0 rfl) ?_
  refine lv_iload_n hx hb dJ6_bitCount_0f7a4_35 rfl (lv_at hl 0 rfl) ?_
  refine lv_bipush (v := 8) hx hb dJ6_bitCount_0f7a4_36 (by decide) ?_
  refine lv_iushr hx hb dJ6_bitCount_0f7a4_38 rfl ?_
  refine lv_iadd hx hb dJ6_bitCount_0f7a4_39 ?_
  refine lv_istore_n (lv' := [(0, .int ((((((p0 - (((p0.toUInt32 >>> ((1 : Int32).toUInt32 &&& Int32.toUInt32 31)).toInt32) &&& (1431655765 : Int32))) &&& (858993459 : Int32)) + ((((p0 - (((p0.toUInt32 >>> ((1 : Int32).toUInt32 &&& Int32.toUInt32 31)).toInt32) &&& (1431655765 : Int32))).toUInt32 >>> ((2 : Int32).toUInt32 &&& Int32.toUInt32 31)).toInt32) &&& (858993459 : Int32))) + (((((p0 - (((p0.toUInt32 >>> ((1 : Int32).toUInt32 &&& Int32.toUInt32 31)).toInt32) &&& (1431655765 : Int32))) &&& (858993459 : Int32)) + ((((p0 - (((p0.toUInt32 >>> ((1 : Int32).toUInt32 &&& Int32.toUInt32 31)).toInt32) &&& (1431655765 : Int32))).toUInt32 >>> ((2 : Int32).toUInt32 &&& Int32.toUInt32 31)).toInt32) &&& (858993459 : Int32))).toUInt32 >>> ((4 : Int32).toUInt32 &&& Int32.toUInt32 31)).toInt32)) &&& (252645135 : Int32)) + (((((((p0 - (((p0.toUInt32 >>> ((1 : Int32).toUInt32 &&& Int32.toUInt32 31)).toInt32) &&& (1431655765 : Int32))) &&& (858993459 : Int32)) + ((((p0 - (((p0.toUInt32 >>> ((1 : Int32).toUInt32 &&& Int32.toUInt32 31)).toInt32) &&& (1431655765 : Int32))).toUInt32 >>> ((2 : Int32).toUInt32 &&& Int32.toUInt32 31)).toInt32) &&& (858993459 : Int32))) + (((((p0 - (((p0.toUInt32 >>> ((1 : Int32).toUInt32 &&& Int32.toUInt32 31)).toInt32) &&& (1431655765 : Int32))) &&& (858993459 : Int32)) + ((((p0 - (((p0.toUInt32 >>> ((1 : Int32).toUInt32 &&& Int32.toUInt32 31)).toInt32) &&& (1431655765 : Int32))).toUInt32 >>> ((2 : Int32).toUInt32 &&& Int32.toUInt32 31)).toInt32) &&& (858993459 : Int32))).toUInt32 >>> ((4 : Int32).toUInt32 &&& Int32.toUInt32 31)).toInt32)) &&& (252645135 : Int32)).toUInt32 >>> ((8 : Int32).toUInt32 &&& Int32.toUInt32 31)).toInt32)))]) hx hb dJ6_bitCount_0f7a4_40 rfl hl (by decide) rfl (fun ls hl => ?_)
  refine lv_iload_n hx hb dJ6_bitCount_0f7a4_41 rfl (lv_at hl 0 rfl) ?_
  refine lv_iload_n hx hb dJ6_bitCount_0f7a4_42 rfl (lv_at hl 0 rfl) ?_
  refine lv_bipush (v := 16) hx hb dJ6_bitCount_0f7a4_43 (by decide) ?_
  refine lv_iushr hx hb dJ6_bitCount_0f7a4_45 rfl ?_
  refine lv_iadd hx hb dJ6_bitCount_0f7a4_46 ?_
  refine lv_istore_n (lv' := [(0, .int (((((((p0 - (((p0.toUInt32 >>> ((1 : Int32).toUInt32 &&& Int32.toUInt32 31)).toInt32) &&& (1431655765 : Int32))) &&& (858993459 : Int32)) + ((((p0 - (((p0.toUInt32 >>> ((1 : Int32).toUInt32 &&& Int32.toUInt32 31)).toInt32) &&& (1431655765 : Int32))).toUInt32 >>> ((2 : Int32).toUInt32 &&& Int32.toUInt32 31)).toInt32) &&& (858993459 : Int32))) + (((((p0 - (((p0.toUInt32 >>> ((1 : Int32).toUInt32 &&& Int32.toUInt32 31)).toInt32) &&& (1431655765 : Int32))) &&& (858993459 : Int32)) + ((((p0 - (((p0.toUInt32 >>> ((1 : Int32).toUInt32 &&& Int32.toUInt32 31)).toInt32) &&& (1431655765 : Int32))).toUInt32 >>> ((2 : Int32).toUInt32 &&& Int32.toUInt32 31)).toInt32) &&& (858993459 : Int32))).toUInt32 >>> ((4 : Int32).toUInt32 &&& Int32.toUInt32 31)).toInt32)) &&& (252645135 : Int32)) + (((((((p0 - (((p0.toUInt32 >>> ((1 : Int32).toUInt32 &&& Int32.toUInt32 31)).toInt32) &&& (1431655765 : Int32))) &&& (858993459 : Int32)) + ((((p0 - (((p0.toUInt32 >>> ((1 : Int32).toUInt32 &&& Int32.toUInt32 31)).toInt32) &&& (1431655765 : Int32))).toUInt32 >>> ((2 : Int32).toUInt32 &&& Int32.toUInt32 31)).toInt32) &&& (858993459 : Int32))) + (((((p0 - (((p0.toUInt32 >>> ((1 : Int32).toUInt32 &&& Int32.toUInt32 31)).toInt32) &&& (1431655765 : Int32))) &&& (858993459 : Int32)) + ((((p0 - (((p0.toUInt32 >>> ((1 : Int32).toUInt32 &&& Int32.toUInt32 31)).toInt32) &&& (1431655765 : Int32))).toUInt32 >>> ((2 : Int32).toUInt32 &&& Int32.toUInt32 31)).toInt32) &&& (858993459 : Int32))).toUInt32 >>> ((4 : Int32).toUInt32 &&& Int32.toUInt32 31)).toInt32)) &&& (252645135 : Int32)).toUInt32 >>> ((8 : Int32).toUInt32 &&& Int32.toUInt32 31)).toInt32)) + ((((((((p0 - (((p0.toUInt32 >>> ((1 : Int32).toUInt32 &&& Int32.toUInt32 31)).toInt32) &&& (1431655765 : Int32))) &&& (858993459 : Int32)) + ((((p0 - (((p0.toUInt32 >>> ((1 : Int32).toUInt32 &&& Int32.toUInt32 31)).toInt32) &&& (1431655765 : Int32))).toUInt32 >>> ((2 : Int32).toUInt32 &&& Int32.toUInt32 31)).toInt32) &&& (858993459 : Int32))) + (((((p0 - (((p0.toUInt32 >>> ((1 : Int32).toUInt32 &&& Int32.toUInt32 31)).toInt32) &&& (1431655765 : Int32))) &&& (858993459 : Int32)) + ((((p0 - (((p0.toUInt32 >>> ((1 : Int32).toUInt32 &&& Int32.toUInt32 31)).toInt32) &&& (1431655765 : Int32))).toUInt32 >>> ((2 : Int32).toUInt32 &&& Int32.toUInt32 31)).toInt32) &&& (858993459 : Int32))).toUInt32 >>> ((4 : Int32).toUInt32 &&& Int32.toUInt32 31)).toInt32)) &&& (252645135 : Int32)) + (((((((p0 - (((p0.toUInt32 >>> ((1 : Int32).toUInt32 &&& Int32.toUInt32 31)).toInt32) &&& (1431655765 : Int32))) &&& (858993459 : Int32)) + ((((p0 - (((p0.toUInt32 >>> ((1 : Int32).toUInt32 &&& Int32.toUInt32 31)).toInt32) &&& (1431655765 : Int32))).toUInt32 >>> ((2 : Int32).toUInt32 &&& Int32.toUInt32 31)).toInt32) &&& (858993459 : Int32))) + (((((p0 - (((p0.toUInt32 >>> ((1 : Int32).toUInt32 &&& Int32.toUInt32 31)).toInt32) &&& (1431655765 : Int32))) &&& (858993459 : Int32)) + ((((p0 - (((p0.toUInt32 >>> ((1 : Int32).toUInt32 &&& Int32.toUInt32 31)).toInt32) &&& (1431655765 : Int32))).toUInt32 >>> ((2 : Int32).toUInt32 &&& Int32.toUInt32 31)).toInt32) &&& (858993459 : Int32))).toUInt32 >>> ((4 : Int32).toUInt32 &&& Int32.toUInt32 31)).toInt32)) &&& (252645135 : Int32)).toUInt32 >>> ((8 : Int32).toUInt32 &&& Int32.toUInt32 31)).toInt32)).toUInt32 >>> ((16 : Int32).toUInt32 &&& Int32.toUInt32 31)).toInt32)))]) hx hb dJ6_bitCount_0f7a4_47 rfl hl (by decide) rfl (fun ls hl => ?_)
  refine lv_iload_n hx hb dJ6_bitCount_0f7a4_48 rfl (lv_at hl 0 rfl) ?_
  refine lv_bipush (v := 63) hx hb dJ6_bitCount_0f7a4_49 (by decide) ?_
  refine lv_iand hx hb dJ6_bitCount_0f7a4_51 ?_
  exact r_iret X I hD dJ6_bitCount_0f7a4_52

/-! YearDeck$Sheet.hasRow()Z -/
def D_X5_hasRow (σ : St) (p0 : Nat) : Option Int32 := if (σ p0 1) = (-1 : Int32) then some (0 : Int32) else some (1 : Int32)
set_option maxRecDepth 100000 in
set_option maxHeartbeats 4000000 in
theorem c_X5_hasRow (l : Launch) (g : Gh) (q : Nat → Nat) (sz : Nat) (σ : St) (p0 : Nat) (kp0 : kSh p0) {rr : Int32} (hD : D_X5_hasRow σ p0 = some rr) : Met l yX5_hasRow (wU yX5_hasRow cX5_hasRow 1 (some .boolean)) (rmD 0) (PQ g (eC g q) q 23 σ sz [.ref (q p0)]) (QI g (eC g q) q 23 rr σ sz) 0 0 (AQ q 23 sz) := by
  refine met_of (Qc := QI g (eC g q) q 23 rr σ) (by decide) (Nat.le_of_ble_eq_true rfl) ?_
  intro p e s m below meth c ls X I hl
  have hx := X.1
  have hb := X.2.1
  have hl : lv_has ls 1 [(0, .ref (q p0))] := hl
  unfold D_X5_hasRow at hD
  refine lv_aload_n hx hb dX5_hasRow_0 rfl (lv_at hl 0 rfl) ?_
  refine g_Sheet_lane X I kp0 fl_X5_15 dX5_hasRow_1 ?_
  refine lv_iconst (v := -1) hx hb dX5_hasRow_4 (by decide) ?_
  refine lv_icmp_eq (tgt := 12) hx hb dX5_hasRow_5 (by decide) (fun hc4 => ?_) (fun hc4 => ?_)
  · have hD := ite_p hc4 hD
    refine lv_iconst (v := 0) hx hb dX5_hasRow_12 (by decide) ?_
    exact r_zret X I hD rfl dX5_hasRow_13
  · have hD := ite_n hc4 hD
    refine lv_iconst (v := 1) hx hb dX5_hasRow_8 (by decide) ?_
    refine lv_goto (tgt := 13) hx hb dX5_hasRow_9 (by decide) ?_
    exact r_zret X I hD rfl dX5_hasRow_13

/-! YearDeck$Sheet.renew(II)V -/
def D_X5_renew_12b (σ : St) (rc12 : St → Int32 → Option St) (v0 : Nat) (v3 : Int32) : Option St := if (60 : Int32) ≤ v3 then some σ else gd (inb v3 60) (rc12 (up2 σ (v0 + 4) v3.toNatClampNeg (0 : Int32)) (v3 + (1 : Int32)))
set_option maxRecDepth 100000 in
set_option maxHeartbeats 4000000 in
theorem w_X5_renew_12b {p : Program} {l : Launch} {e : Env} {s : State} {m : MethodId} {args : Array Value} {below : List Frame} {meth : Method} {c : Code} (g : Gh) (q : Nat → Nat) (X : MX p s m args meth c cX5_renew 4 none RX5) {rr : St} (σ : St)  (v0 : Nat) (v3 : Int32) (kv0 : kSh v0) (rc12 : St → Int32 → Option St) (hrc12 : ∀ (σ' : St) (v3' : Int32), rc12 σ' v3' = some rr → ∀ (H : Heap) (locs : List Loc) (ls : Array Slot), IC g q s σ' H locs → lv_has ls 4 [(0, .ref (q v0)), (3, .int v3')] → W p l e (rmD 0) s m args below meth c H locs 0 0 (MQ below (QV g (eC g q) q 23 rr s.heap.size) args s 0 0 (AQ q 23 s.heap.size)) (F0 m 12 ls [])) (hD : D_X5_renew_12b σ rc12 v0 v3 = some rr) (H : Heap) (locs : List Loc) (ls : Array Slot) (I : IC g q s σ H locs) (hl : lv_has ls 4 [(0, .ref (q v0)), (3, .int v3)]) : W p l e (rmD 0) s m args below meth c H locs 0 0 (MQ below (QV g (eC g q) q 23 rr s.heap.size) args s 0 0 (AQ q 23 s.heap.size)) (F0 m 12 ls []) := by
  have hx := X.1
  have hb := X.2.1
  unfold D_X5_renew_12b at hD
  refine lv_iload_n hx hb dX5_renew_12 rfl (lv_at hl 1 rfl) ?_
  refine lv_bipush (v := 60) hx hb dX5_renew_13 (by decide) ?_
  refine lv_icmp_ge (tgt := 31) hx hb dX5_renew_15 (by decide) (fun hc11 => ?_) (fun hc11 => ?_)
  · have hD := ite_p hc11 hD
    exact r_vret X I hD dX5_renew_31
  · have hD := ite_n hc11 hD
    refine lv_aload_n hx hb dX5_renew_18 rfl (lv_at hl 0 rfl) ?_
    refine g_Sheet_cells X I kv0 fl_X5_9 dX5_renew_19 ?_
    refine lv_iload_n hx hb dX5_renew_22 rfl (lv_at hl 1 rfl) ?_
    refine lv_iconst (v := 0) hx hb dX5_renew_23 (by decide) ?_
    obtain ⟨hg17, hD⟩ := gd_s hD
    refine r_iast (eC_loc g q) X I (kSh_lt4 kv0) (eC_cells g q kv0) hg17 dX5_renew_24 (fun H locs I => ?_)
    refine lv_iinc (v := v3 + (1 : Int32)) (lv' := [(3, .int (v3 + (1 : Int32))), (0, .ref (q v0))]) hx hb dX5_renew_25 hl (k := 1) rfl rfl (by decide) rfl (fun ls hl => ?_)
    refine lv_goto (tgt := 12) hx hb dX5_renew_28 (by decide) ?_
    exact hrc12 (up2 σ (v0 + 4) v3.toNatClampNeg (0 : Int32)) (v3 + (1 : Int32)) hD _ _ _ I (lv_sub hl [1, 0] rfl)
def D_X5_renew_12  (v0 : Nat) : Nat → St → Int32 → Option St
  | 0 => fun _ _ => none
  | n + 1 => fun σ v3 => D_X5_renew_12b σ (D_X5_renew_12 v0 n) v0 v3
set_option maxRecDepth 100000 in
set_option maxHeartbeats 4000000 in
theorem w_X5_renew_12 {p : Program} {l : Launch} {e : Env} {s : State} {m : MethodId} {args : Array Value} {below : List Frame} {meth : Method} {c : Code} (g : Gh) (q : Nat → Nat) (X : MX p s m args meth c cX5_renew 4 none RX5) {rr : St}  (v0 : Nat) (kv0 : kSh v0) : ∀ (n : Nat) (σ : St) (v3 : Int32), D_X5_renew_12 v0 n σ v3 = some rr → ∀ (H : Heap) (locs : List Loc) (ls : Array Slot), IC g q s σ H locs → lv_has ls 4 [(0, .ref (q v0)), (3, .int v3)] → W p l e (rmD 0) s m args below meth c H locs 0 0 (MQ below (QV g (eC g q) q 23 rr s.heap.size) args s 0 0 (AQ q 23 s.heap.size)) (F0 m 12 ls []) := by
  intro n
  induction n with
  | zero =>
    intro σ v3 hD H locs ls I hl
    cases hD
  | succ n ih =>
    intro σ v3 hD H locs ls I hl
    exact w_X5_renew_12b g q X σ v0 v3 kv0 _ ih hD H locs ls I hl
def D_X5_renew (σ : St) (p0 : Nat) (p1 : Int32) (p2 : Int32) : Option St := D_X5_renew_12 p0 FU (up2 (up2 σ p0 1 p1) p0 2 p2) (0 : Int32)
set_option maxRecDepth 100000 in
set_option maxHeartbeats 4000000 in
theorem c_X5_renew (l : Launch) (g : Gh) (q : Nat → Nat) (sz : Nat) (σ : St) (p0 : Nat) (p1 : Int32) (p2 : Int32) (kp0 : kSh p0) {rr : St} (hD : D_X5_renew σ p0 p1 p2 = some rr) : Met l yX5_renew (wU yX5_renew cX5_renew 4 none) (rmD 0) (PQ g (eC g q) q 23 σ sz [.ref (q p0), .int p1, .int p2]) (QV g (eC g q) q 23 rr sz) 0 0 (AQ q 23 sz) := by
  refine met_of (Qc := QV g (eC g q) q 23 rr) (by decide) (Nat.le_of_ble_eq_true rfl) ?_
  intro p e s m below meth c ls X I hl
  have hx := X.1
  have hb := X.2.1
  have hl : lv_has ls 4 [(0, .ref (q p0)), (1, .int p1), (2, .int p2)] := hl
  unfold D_X5_renew at hD
  refine lv_aload_n hx hb dX5_renew_0 rfl (lv_at hl 0 rfl) ?_
  refine lv_iload_n hx hb dX5_renew_1 rfl (lv_at hl 1 rfl) ?_
  refine p_Sheet_lane X I kp0 fl_X5_15 dX5_renew_2 (fun H locs I => ?_)
  refine lv_aload_n hx hb dX5_renew_5 rfl (lv_at hl 0 rfl) ?_
  refine lv_iload_n hx hb dX5_renew_6 rfl (lv_at hl 2 rfl) ?_
  refine p_Sheet_length X I kp0 fl_X5_19 dX5_renew_7 (fun H locs I => ?_)
  refine lv_iconst (v := 0) hx hb dX5_renew_10 (by decide) ?_
  refine lv_istore_n (lv' := [(3, .int (0 : Int32)), (0, .ref (q p0)), (1, .int p1), (2, .int p2)]) hx hb dX5_renew_11 rfl hl (by decide) rfl (fun ls hl => ?_)
  exact w_X5_renew_12 g q X p0 kp0 FU (up2 (up2 σ p0 1 p1) p0 2 p2) (0 : Int32) hD _ _ _ I (lv_sub hl [1, 0] rfl)

/-! YearDeck$Sheet.drop()V -/
def D_X5_drop (σ : St) (p0 : Nat) : Option St := some (up2 (up2 σ p0 1 (-1 : Int32)) p0 2 (0 : Int32))
set_option maxRecDepth 100000 in
set_option maxHeartbeats 4000000 in
theorem c_X5_drop (l : Launch) (g : Gh) (q : Nat → Nat) (sz : Nat) (σ : St) (p0 : Nat) (kp0 : kSh p0) {rr : St} (hD : D_X5_drop σ p0 = some rr) : Met l yX5_drop (wU yX5_drop cX5_drop 1 none) (rmD 0) (PQ g (eC g q) q 23 σ sz [.ref (q p0)]) (QV g (eC g q) q 23 rr sz) 0 0 (AQ q 23 sz) := by
  refine met_of (Qc := QV g (eC g q) q 23 rr) (by decide) (Nat.le_of_ble_eq_true rfl) ?_
  intro p e s m below meth c ls X I hl
  have hx := X.1
  have hb := X.2.1
  have hl : lv_has ls 1 [(0, .ref (q p0))] := hl
  unfold D_X5_drop at hD
  refine lv_aload_n hx hb dX5_drop_0 rfl (lv_at hl 0 rfl) ?_
  refine lv_iconst (v := -1) hx hb dX5_drop_1 (by decide) ?_
  refine p_Sheet_lane X I kp0 fl_X5_15 dX5_drop_2 (fun H locs I => ?_)
  refine lv_aload_n hx hb dX5_drop_5 rfl (lv_at hl 0 rfl) ?_
  refine lv_iconst (v := 0) hx hb dX5_drop_6 (by decide) ?_
  refine p_Sheet_length X I kp0 fl_X5_19 dX5_drop_7 (fun H locs I => ?_)
  exact r_vret X I hD dX5_drop_10

/-! YearDeck$Sheet.hasCells(II)Z -/
def D_X5_hasCells (σ : St) (p0 : Nat) (p1 : Int32) (p2 : Int32) : Option Int32 := if p1 < 0 then some (0 : Int32) else if (σ p0 2) < p1 then some (0 : Int32) else if p2 < 0 then some (0 : Int32) else if ((σ p0 2) - p1) < p2 then some (0 : Int32) else some (1 : Int32)
set_option maxRecDepth 100000 in
set_option maxHeartbeats 4000000 in
theorem c_X5_hasCells (l : Launch) (g : Gh) (q : Nat → Nat) (sz : Nat) (σ : St) (p0 : Nat) (p1 : Int32) (p2 : Int32) (kp0 : kSh p0) {rr : Int32} (hD : D_X5_hasCells σ p0 p1 p2 = some rr) : Met l yX5_hasCells (wU yX5_hasCells cX5_hasCells 3 (some .boolean)) (rmD 0) (PQ g (eC g q) q 23 σ sz [.ref (q p0), .int p1, .int p2]) (QI g (eC g q) q 23 rr σ sz) 0 0 (AQ q 23 sz) := by
  refine met_of (Qc := QI g (eC g q) q 23 rr σ) (by decide) (Nat.le_of_ble_eq_true rfl) ?_
  intro p e s m below meth c ls X I hl
  have hx := X.1
  have hb := X.2.1
  have hl : lv_has ls 3 [(0, .ref (q p0)), (1, .int p1), (2, .int p2)] := hl
  unfold D_X5_hasCells at hD
  refine lv_iload_n hx hb dX5_hasCells_0 rfl (lv_at hl 1 rfl) ?_
  refine lv_if_lt (tgt := 30) hx hb dX5_hasCells_1 (by decide) (fun hc2 => ?_) (fun hc2 => ?_)
  · have hD := ite_p hc2 hD
    refine lv_iconst (v := 0) hx hb dX5_hasCells_30 (by decide) ?_
    exact r_zret X I hD rfl dX5_hasCells_31
  · have hD := ite_n hc2 hD
    refine lv_iload_n hx hb dX5_hasCells_4 rfl (lv_at hl 1 rfl) ?_
    refine lv_aload_n hx hb dX5_hasCells_5 rfl (lv_at hl 0 rfl) ?_
    refine g_Sheet_length X I kp0 fl_X5_19 dX5_hasCells_6 ?_
    refine lv_icmp_gt (tgt := 30) hx hb dX5_hasCells_9 (by decide) (fun hc8 => ?_) (fun hc8 => ?_)
    · have hD := ite_p hc8 hD
      refine lv_iconst (v := 0) hx hb dX5_hasCells_30 (by decide) ?_
      exact r_zret X I hD rfl dX5_hasCells_31
    · have hD := ite_n hc8 hD
      refine lv_iload_n hx hb dX5_hasCells_12 rfl (lv_at hl 2 rfl) ?_
      refine lv_if_lt (tgt := 30) hx hb dX5_hasCells_13 (by decide) (fun hc12 => ?_) (fun hc12 => ?_)
      · have hD := ite_p hc12 hD
        refine lv_iconst (v := 0) hx hb dX5_hasCells_30 (by decide) ?_
        exact r_zret X I hD rfl dX5_hasCells_31
      · have hD := ite_n hc12 hD
        refine lv_iload_n hx hb dX5_hasCells_16 rfl (lv_at hl 2 rfl) ?_
        refine lv_aload_n hx hb dX5_hasCells_17 rfl (lv_at hl 0 rfl) ?_
        refine g_Sheet_length X I kp0 fl_X5_19 dX5_hasCells_18 ?_
        refine lv_iload_n hx hb dX5_hasCells_21 rfl (lv_at hl 1 rfl) ?_
        refine lv_isub hx hb dX5_hasCells_22 ?_
        refine lv_icmp_gt (tgt := 30) hx hb dX5_hasCells_23 (by decide) (fun hc20 => ?_) (fun hc20 => ?_)
        · have hD := ite_p hc20 hD
          refine lv_iconst (v := 0) hx hb dX5_hasCells_30 (by decide) ?_
          exact r_zret X I hD rfl dX5_hasCells_31
        · have hD := ite_n hc20 hD
          refine lv_iconst (v := 1) hx hb dX5_hasCells_26 (by decide) ?_
          refine lv_goto (tgt := 31) hx hb dX5_hasCells_27 (by decide) ?_
          exact r_zret X I hD rfl dX5_hasCells_31

/-! YearDeck$Sheet.cutToLane(I)I -/
def D_X5_cutToLane (σ : St) (p0 : Nat) (p1 : Int32) : Option Int32 := if (σ p0 1) = (0 : Int32) then some p1.toInt8.toInt32 else if (σ p0 1) = (1 : Int32) then some p1.toInt16.toInt32 else some p1
set_option maxRecDepth 100000 in
set_option maxHeartbeats 4000000 in
theorem c_X5_cutToLane (l : Launch) (g : Gh) (q : Nat → Nat) (sz : Nat) (σ : St) (p0 : Nat) (p1 : Int32) (kp0 : kSh p0) {rr : Int32} (hD : D_X5_cutToLane σ p0 p1 = some rr) : Met l yX5_cutToLane (wU yX5_cutToLane cX5_cutToLane 2 (some .int)) (rmD 0) (PQ g (eC g q) q 23 σ sz [.ref (q p0), .int p1]) (QI g (eC g q) q 23 rr σ sz) 0 0 (AQ q 23 sz) := by
  refine met_of (Qc := QI g (eC g q) q 23 rr σ) (by decide) (Nat.le_of_ble_eq_true rfl) ?_
  intro p e s m below meth c ls X I hl
  have hx := X.1
  have hb := X.2.1
  have hl : lv_has ls 2 [(0, .ref (q p0)), (1, .int p1)] := hl
  unfold D_X5_cutToLane at hD
  refine lv_aload_n hx hb dX5_cutToLane_0 rfl (lv_at hl 0 rfl) ?_
  refine g_Sheet_lane X I kp0 fl_X5_15 dX5_cutToLane_1 ?_
  by_cases hc4 : (σ p0 1) = (0 : Int32)
  · have hD := ite_p hc4 hD
    refine lv_lookup (off := 28) (tgt := 32) hx hb dX5_cutToLane_4 (by decide) (by rw [hc4]; rfl) (by decide) ?_
    refine lv_iload_n hx hb dX5_cutToLane_32 rfl (lv_at hl 1 rfl) ?_
    refine lv_i2b hx hb dX5_cutToLane_33 rfl ?_
    exact r_iret X I hD dX5_cutToLane_34
  · have hD := ite_n hc4 hD
    by_cases hc8 : (σ p0 1) = (1 : Int32)
    · have hD := ite_p hc8 hD
      refine lv_lookup (off := 31) (tgt := 35) hx hb dX5_cutToLane_4 (by decide) (by rw [hc8]; rfl) (by decide) ?_
      refine lv_iload_n hx hb dX5_cutToLane_35 rfl (lv_at hl 1 rfl) ?_
      refine lv_i2s hx hb dX5_cutToLane_36 rfl ?_
      exact r_iret X I hD dX5_cutToLane_37
    · have hD := ite_n hc8 hD
      refine lv_lookup (off := 34) (tgt := 38) hx hb dX5_cutToLane_4 (by decide) (by refine (lv_osw hc4 (by decide)).trans ?_; refine (lv_osw hc8 (by decide)).trans ?_; rfl) (by decide) ?_
      refine lv_iload_n hx hb dX5_cutToLane_38 rfl (lv_at hl 1 rfl) ?_
      exact r_iret X I hD dX5_cutToLane_39

/-! YearDeck$Sheet.write(II)V -/
def D_X5_write (σ : St) (p0 : Nat) (p1 : Int32) (p2 : Int32) : Option St := (D_X5_hasCell σ p0 p1).bind fun y3 => if y3 = 0 then some σ else (D_X5_cutToLane σ p0 p2).bind fun y11 => gd (inb p1 60) (some (up2 σ (p0 + 4) p1.toNatClampNeg y11))
set_option maxRecDepth 100000 in
set_option maxHeartbeats 4000000 in
theorem c_X5_write (l : Launch) (g : Gh) (q : Nat → Nat) (sz : Nat) (σ : St) (p0 : Nat) (p1 : Int32) (p2 : Int32) (kp0 : kSh p0) {rr : St} (hD : D_X5_write σ p0 p1 p2 = some rr) : Met l yX5_write (wU yX5_write cX5_write 3 none) (rmD 1) (PQ g (eC g q) q 23 σ sz [.ref (q p0), .int p1, .int p2]) (QV g (eC g q) q 23 rr sz) 0 0 (AQ q 23 sz) := by
  refine met_of (Qc := QV g (eC g q) q 23 rr) (by decide) (Nat.le_of_ble_eq_true rfl) ?_
  intro p e s m below meth c ls X I hl
  have hx := X.1
  have hb := X.2.1
  have hl : lv_has ls 3 [(0, .ref (q p0)), (1, .int p1), (2, .int p2)] := hl
  unfold D_X5_write at hD
  refine lv_aload_n hx hb dX5_write_0 rfl (lv_at hl 0 rfl) ?_
  refine lv_iload_n hx hb dX5_write_1 rfl (lv_at hl 1 rfl) ?_
  obtain ⟨y3, hy3, hD⟩ := bd_s hD
  refine r_calli (r_runV (As := [.int p1]) (rest := []) X I (c_X5_hasCell l g q _ σ p0 p1 kp0 hy3) kv_X5_hasCell ml_X5_22 rfl (kSh_lt kp0) (eC_Sheet g q _ kp0) ⟨Nat.le_of_ble_eq_true rfl, Nat.le_of_ble_eq_true rfl⟩ ⟨Nat.zero_le _, Nat.zero_le _⟩ rfl rfl hl.1 (Nat.le_of_ble_eq_true rfl) dX5_write_2) I (fun H locs I => ?_)
  refine lv_if_eq (tgt := 19) hx hb dX5_write_5 (by decide) (fun hc4 => ?_) (fun hc4 => ?_)
  · have hD := ite_p hc4 hD
    exact r_vret X I hD dX5_write_19
  · have hD := ite_n hc4 hD
    refine lv_aload_n hx hb dX5_write_8 rfl (lv_at hl 0 rfl) ?_
    refine g_Sheet_cells X I kp0 fl_X5_9 dX5_write_9 ?_
    refine lv_iload_n hx hb dX5_write_12 rfl (lv_at hl 1 rfl) ?_
    refine lv_aload_n hx hb dX5_write_13 rfl (lv_at hl 0 rfl) ?_
    refine lv_iload_n hx hb dX5_write_14 rfl (lv_at hl 2 rfl) ?_
    obtain ⟨y11, hy11, hD⟩ := bd_s hD
    refine r_calli (r_runV (As := [.int p2]) (rest := [.int p1, .ref (q (p0 + 4))]) X I (c_X5_cutToLane l g q _ σ p0 p2 kp0 hy11) kv_X5_cutToLane ml_X5_26 rfl (kSh_lt kp0) (eC_Sheet g q _ kp0) ⟨Nat.le_of_ble_eq_true rfl, Nat.le_of_ble_eq_true rfl⟩ ⟨Nat.zero_le _, Nat.zero_le _⟩ rfl rfl hl.1 (Nat.le_of_ble_eq_true rfl) dX5_write_15) I (fun H locs I => ?_)
    obtain ⟨hg12, hD⟩ := gd_s hD
    refine r_iast (eC_loc g q) X I (kSh_lt4 kp0) (eC_cells g q kp0) hg12 dX5_write_18 (fun H locs I => ?_)
    exact r_vret X I hD dX5_write_19

/-! YearDeck$Sheet.faultOfRow(I)I -/
def D_X5_faultOfRow (σ : St) (p0 : Nat) (p1 : Int32) : Option Int32 := (D_X5_hasRow σ p0).bind fun y2 => if y2 = 0 then some (1 : Int32) else if (σ p0 1) = p1 then some (0 : Int32) else some (2 : Int32)
set_option maxRecDepth 100000 in
set_option maxHeartbeats 4000000 in
theorem c_X5_faultOfRow (l : Launch) (g : Gh) (q : Nat → Nat) (sz : Nat) (σ : St) (p0 : Nat) (p1 : Int32) (kp0 : kSh p0) {rr : Int32} (hD : D_X5_faultOfRow σ p0 p1 = some rr) : Met l yX5_faultOfRow (wU yX5_faultOfRow cX5_faultOfRow 2 (some .int)) (rmD 1) (PQ g (eC g q) q 23 σ sz [.ref (q p0), .int p1]) (QI g (eC g q) q 23 rr σ sz) 0 0 (AQ q 23 sz) := by
  refine met_of (Qc := QI g (eC g q) q 23 rr σ) (by decide) (Nat.le_of_ble_eq_true rfl) ?_
  intro p e s m below meth c ls X I hl
  have hx := X.1
  have hb := X.2.1
  have hl : lv_has ls 2 [(0, .ref (q p0)), (1, .int p1)] := hl
  unfold D_X5_faultOfRow at hD
  refine lv_aload_n hx hb dX5_faultOfRow_0 rfl (lv_at hl 0 rfl) ?_
  obtain ⟨y2, hy2, hD⟩ := bd_s hD
  refine r_calli (r_runV (As := []) (rest := []) X I (c_X5_hasRow l g q _ σ p0 kp0 hy2) kv_X5_hasRow ml_X5_30 rfl (kSh_lt kp0) (eC_Sheet g q _ kp0) ⟨Nat.le_of_ble_eq_true rfl, Nat.le_of_ble_eq_true rfl⟩ ⟨Nat.zero_le _, Nat.zero_le _⟩ rfl rfl hl.1 (Nat.le_of_ble_eq_true rfl) dX5_faultOfRow_1) I (fun H locs I => ?_)
  refine lv_if_ne (tgt := 9) hx hb dX5_faultOfRow_4 (by decide) (fun hc3 => ?_) (fun hc3 => ?_)
  · have hD := ite_n hc3 hD
    refine lv_aload_n hx hb dX5_faultOfRow_9 rfl (lv_at hl 0 rfl) ?_
    refine g_Sheet_lane X I kp0 fl_X5_15 dX5_faultOfRow_10 ?_
    refine lv_iload_n hx hb dX5_faultOfRow_13 rfl (lv_at hl 1 rfl) ?_
    refine lv_icmp_ne (tgt := 21) hx hb dX5_faultOfRow_14 (by decide) (fun hc7 => ?_) (fun hc7 => ?_)
    · have hD := ite_n hc7 hD
      refine lv_iconst (v := 2) hx hb dX5_faultOfRow_21 (by decide) ?_
      exact r_iret X I hD dX5_faultOfRow_22
    · have hD := ite_p hc7 hD
      refine lv_iconst (v := 0) hx hb dX5_faultOfRow_17 (by decide) ?_
      refine lv_goto (tgt := 22) hx hb dX5_faultOfRow_18 (by decide) ?_
      exact r_iret X I hD dX5_faultOfRow_22
  · have hD := ite_p hc3 hD
    refine lv_iconst (v := 1) hx hb dX5_faultOfRow_7 (by decide) ?_
    exact r_iret X I hD dX5_faultOfRow_8

/-! YearDeck$Sheet.faultOfCells(III)I -/
def D_X5_faultOfCells (σ : St) (p0 : Nat) (p1 : Int32) (p2 : Int32) (p3 : Int32) : Option Int32 := (D_X5_faultOfRow σ p0 p1).bind fun y3 => if y3 = 0 then if 0 ≤ p3 then (D_X5_hasCells σ p0 p2 p3).bind fun y12 => if y12 = 0 then some (3 : Int32) else some (0 : Int32) else some (4 : Int32) else some y3
set_option maxRecDepth 100000 in
set_option maxHeartbeats 4000000 in
theorem c_X5_faultOfCells (l : Launch) (g : Gh) (q : Nat → Nat) (sz : Nat) (σ : St) (p0 : Nat) (p1 : Int32) (p2 : Int32) (p3 : Int32) (kp0 : kSh p0) {rr : Int32} (hD : D_X5_faultOfCells σ p0 p1 p2 p3 = some rr) : Met l yX5_faultOfCells (wU yX5_faultOfCells cX5_faultOfCells 5 (some .int)) (rmD 2) (PQ g (eC g q) q 23 σ sz [.ref (q p0), .int p1, .int p2, .int p3]) (QI g (eC g q) q 23 rr σ sz) 0 0 (AQ q 23 sz) := by
  refine met_of (Qc := QI g (eC g q) q 23 rr σ) (by decide) (Nat.le_of_ble_eq_true rfl) ?_
  intro p e s m below meth c ls X I hl
  have hx := X.1
  have hb := X.2.1
  have hl : lv_has ls 5 [(0, .ref (q p0)), (1, .int p1), (2, .int p2), (3, .int p3)] := hl
  unfold D_X5_faultOfCells at hD
  refine lv_aload_n hx hb dX5_faultOfCells_0 rfl (lv_at hl 0 rfl) ?_
  refine lv_iload_n hx hb dX5_faultOfCells_1 rfl (lv_at hl 1 rfl) ?_
  obtain ⟨y3, hy3, hD⟩ := bd_s hD
  refine r_calli (r_runV (As := [.int p1]) (rest := []) X I (c_X5_faultOfRow l g q _ σ p0 p1 kp0 hy3) kv_X5_faultOfRow ml_X5_34 rfl (kSh_lt kp0) (eC_Sheet g q _ kp0) ⟨Nat.le_of_ble_eq_true rfl, Nat.le_of_ble_eq_true rfl⟩ ⟨Nat.zero_le _, Nat.zero_le _⟩ rfl rfl hl.1 (Nat.le_of_ble_eq_true rfl) dX5_faultOfCells_2) I (fun H locs I => ?_)
  refine lv_istore (lv' := [(4, .int y3), (0, .ref (q p0)), (1, .int p1), (2, .int p2), (3, .int p3)]) hx hb dX5_faultOfCells_5 hl (by decide) rfl (fun ls hl => ?_)
  refine lv_iload hx hb dX5_faultOfCells_7 (lv_at hl 0 rfl) ?_
  refine lv_if_eq (tgt := 15) hx hb dX5_faultOfCells_9 (by decide) (fun hc6 => ?_) (fun hc6 => ?_)
  · have hD := ite_p hc6 hD
    refine lv_iload_n hx hb dX5_faultOfCells_15 rfl (lv_at hl 4 rfl) ?_
    refine lv_if_ge (tgt := 21) hx hb dX5_faultOfCells_16 (by decide) (fun hc8 => ?_) (fun hc8 => ?_)
    · have hD := ite_p hc8 hD
      refine lv_aload_n hx hb dX5_faultOfCells_21 rfl (lv_at hl 1 rfl) ?_
      refine lv_iload_n hx hb dX5_faultOfCells_22 rfl (lv_at hl 3 rfl) ?_
      refine lv_iload_n hx hb dX5_faultOfCells_23 rfl (lv_at hl 4 rfl) ?_
      obtain ⟨y12, hy12, hD⟩ := bd_s hD
      refine r_calli (r_runV (As := [.int p2, .int p3]) (rest := []) X I (c_X5_hasCells l g q _ σ p0 p2 p3 kp0 hy12) kv_X5_hasCells ml_X5_37 rfl (kSh_lt kp0) (eC_Sheet g q _ kp0) ⟨Nat.le_of_ble_eq_true rfl, Nat.le_of_ble_eq_true rfl⟩ ⟨Nat.zero_le _, Nat.zero_le _⟩ rfl rfl hl.1 (Nat.le_of_ble_eq_true rfl) dX5_faultOfCells_24) I (fun H locs I => ?_)
      refine lv_if_eq (tgt := 34) hx hb dX5_faultOfCells_27 (by decide) (fun hc13 => ?_) (fun hc13 => ?_)
      · have hD := ite_p hc13 hD
        refine lv_iconst (v := 3) hx hb dX5_faultOfCells_34 (by decide) ?_
        exact r_iret X I hD dX5_faultOfCells_35
      · have hD := ite_n hc13 hD
        refine lv_iconst (v := 0) hx hb dX5_faultOfCells_30 (by decide) ?_
        refine lv_goto (tgt := 35) hx hb dX5_faultOfCells_31 (by decide) ?_
        exact r_iret X I hD dX5_faultOfCells_35
    · have hD := ite_n hc8 hD
      refine lv_iconst (v := 4) hx hb dX5_faultOfCells_19 (by decide) ?_
      exact r_iret X I hD dX5_faultOfCells_20
  · have hD := ite_n hc6 hD
    refine lv_iload hx hb dX5_faultOfCells_12 (lv_at hl 0 rfl) ?_
    exact r_iret X I hD dX5_faultOfCells_14
